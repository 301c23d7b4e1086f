def f_X12_calls : Nat → St → Int32 → Int32 → Option (Int32 × St)
  | 0, _, _, _ => none
  | d + 1, S, v1, v2 =>
    (if v1 = 0 then
     bnd (f_X12_begins S (10 : Int32)) (fun S7 =>
     some ((v2 + (S7.1 172 14)), S7))
     else
     (if v1 = 1 then
     bnd (f_X12_begins S (20 : Int32)) (fun S9 =>
     bnd (f_X12_above S9 (1 : Int32)) (fun a11 =>
     bnd2 ((f_X12_calls d) S9 a11 v2) (fun a13 S14 =>
     some ((a13 + (5 : Int32)), S14))))
     else
     (if v1 = 3 then
     bnd (f_X12_begins S (40 : Int32)) (fun S16 =>
     bnd (f_X12_above S16 (3 : Int32)) (fun a18 =>
     bnd2 ((f_X12_calls d) S16 a18 (v2 / (2 : Int32))) (fun a20 S21 =>
     some (a20, S21))))
     else
     (if v1 = 5 then
     bnd (f_X12_begins S (70 : Int32)) (fun S23 =>
     some ((8 : Int32), S23))
     else
     (if v1 = 6 then
     bnd (f_X12_begins S (60 : Int32)) (fun S25 =>
     bnd (f_X12_above S25 (6 : Int32)) (fun a27 =>
     bnd2 ((f_X12_calls d) S25 a27 v2) (fun a29 S30 =>
     some ((a29 * (3 : Int32)), S30))))
     else
     bnd (f_X12_above S v1) (fun a32 =>
     bnd2 ((f_X12_calls d) S a32 v2) (fun a34 S35 =>
     some (a34, S35))))))))
def g_X12_calls (rc : St → Int32 → Int32 → Option (Int32 × St)) (S : St) (v1 : Int32) (v2 : Int32) : Option (Int32 × St) :=
 (if v1 = 0 then
     bnd (f_X12_begins S (10 : Int32)) (fun S7 =>
     some ((v2 + (S7.1 172 14)), S7))
     else
     (if v1 = 1 then
     bnd (f_X12_begins S (20 : Int32)) (fun S9 =>
     bnd (f_X12_above S9 (1 : Int32)) (fun a11 =>
     bnd2 (rc S9 a11 v2) (fun a13 S14 =>
     some ((a13 + (5 : Int32)), S14))))
     else
     (if v1 = 3 then
     bnd (f_X12_begins S (40 : Int32)) (fun S16 =>
     bnd (f_X12_above S16 (3 : Int32)) (fun a18 =>
     bnd2 (rc S16 a18 (v2 / (2 : Int32))) (fun a20 S21 =>
     some (a20, S21))))
     else
     (if v1 = 5 then
     bnd (f_X12_begins S (70 : Int32)) (fun S23 =>
     some ((8 : Int32), S23))
     else
     (if v1 = 6 then
     bnd (f_X12_begins S (60 : Int32)) (fun S25 =>
     bnd (f_X12_above S25 (6 : Int32)) (fun a27 =>
     bnd2 (rc S25 a27 v2) (fun a29 S30 =>
     some ((a29 * (3 : Int32)), S30))))
     else
     bnd (f_X12_above S v1) (fun a32 =>
     bnd2 (rc S a32 v2) (fun a34 S35 =>
     some (a34, S35))))))))
set_option maxRecDepth 20000 in
theorem v_X12_calls_e {ε : eT} {κ : kT} {rc : St → Int32 → Int32 → Option (Int32 × St)} {e : Nat} (C : Act ε κ cX12_calls 3 RX12 (e + 1)) {S : St} {res : (Int32 × St)} (X : RI ε κ (some .int) (some (.int res.1)) res.2) (hrc : ∀ (S : St) (v1 : Int32) (v2 : Int32) (res : (Int32 × St)), rc S v1 v2 = some res → CI ε yX12_calls cX12_calls 3 (some .int) e [.ref (eA ε 172), .int v1, .int v2] S (some (.int res.1)) res.2) (he : 8 ≤ e) {v1 : Int32} {v2 : Int32} (h : g_X12_calls rc S v1 v2 = some res) : V ε κ 3 0 [(0, .ref (eA ε 172)), (1, .int v1), (2, .int v2)] [] (wsOf ε S) 0 0 := by
  unfold g_X12_calls at h
  refine V_iload_n C 1 dX12_calls_0 rfl rfl ?_
  by_cases c1 : v1 = 0
  · replace h := ifp c1 h
    refine V_table C rfl dX12_calls_1 (off := 43) (by rw [c1]; decide +kernel) (tgt := 44) rfl ?_
    refine V_aload_n C 0 dX12_calls_44 rfl rfl ?_
    refine V_bipush C dX12_calls_45 kc_b_10 ?_
    obtain ⟨S7, e6, h⟩ := bnd_s h
    refine W_callvn C cf_X12_begins (c_X12_begins e6) q_ML_X12_251 (ws_X12 sk_172) rfl dX12_calls_47 (by omega) rfl rfl (Nat.le_of_ble_eq_true rfl) ?_
    refine V_iload_n C 2 dX12_calls_50 rfl rfl ?_
    refine V_aload_n C 0 dX12_calls_51 rfl rfl ?_
    refine G_X12_speaks (q := 172) C sk_172 q_FL_X12_248 dX12_calls_52 ?_
    refine V_iadd C dX12_calls_55 ?_
    exact V_iret C X dX12_calls_56 ⟨ri_1 h, ri_2 h⟩
  · replace h := ifn c1 h
    by_cases c2 : v1 = 1
    · replace h := ifp c2 h
      refine V_table C rfl dX12_calls_1 (off := 56) (by rw [c2]; decide +kernel) (tgt := 57) rfl ?_
      refine V_aload_n C 0 dX12_calls_57 rfl rfl ?_
      refine V_bipush C dX12_calls_58 kc_b_20 ?_
      obtain ⟨S9, e8, h⟩ := bnd_s h
      refine W_callvn C cf_X12_begins (c_X12_begins e8) q_ML_X12_251 (ws_X12 sk_172) rfl dX12_calls_60 (by omega) rfl rfl (Nat.le_of_ble_eq_true rfl) ?_
      refine V_aload_n C 0 dX12_calls_63 rfl rfl ?_
      refine V_iconst C dX12_calls_64 kc_i_1 ?_
      obtain ⟨a11, e10, h⟩ := bnd_s h
      refine W_callsi C cf_X12_above (c_X12_above e10) q_ML_X12_254 dX12_calls_65 (by omega) rfl rfl (Nat.le_of_ble_eq_true rfl) ?_
      refine V_iload_n C 2 dX12_calls_68 rfl rfl ?_
      obtain ⟨a13, S14, e12, h⟩ := bnd2_s h
      refine W_callvi C cf_X12_calls (hrc _ _ _ _ e12) q_ML_X12_257 (ws_X12 sk_172) rfl dX12_calls_69 (by omega) rfl rfl (Nat.le_of_ble_eq_true rfl) ?_
      refine V_iconst C dX12_calls_72 kc_i_5 ?_
      refine V_iadd C dX12_calls_73 ?_
      exact V_iret C X dX12_calls_74 ⟨ri_1 h, ri_2 h⟩
    · replace h := ifn c2 h
      by_cases c3 : v1 = 3
      · replace h := ifp c3 h
        refine V_table C rfl dX12_calls_1 (off := 74) (by rw [c3]; decide +kernel) (tgt := 75) rfl ?_
        refine V_aload_n C 0 dX12_calls_75 rfl rfl ?_
        refine V_bipush C dX12_calls_76 kc_b_40 ?_
        obtain ⟨S16, e15, h⟩ := bnd_s h
        refine W_callvn C cf_X12_begins (c_X12_begins e15) q_ML_X12_251 (ws_X12 sk_172) rfl dX12_calls_78 (by omega) rfl rfl (Nat.le_of_ble_eq_true rfl) ?_
        refine V_aload_n C 0 dX12_calls_81 rfl rfl ?_
        refine V_iconst C dX12_calls_82 kc_i_3 ?_
        obtain ⟨a18, e17, h⟩ := bnd_s h
        refine W_callsi C cf_X12_above (c_X12_above e17) q_ML_X12_254 dX12_calls_83 (by omega) rfl rfl (Nat.le_of_ble_eq_true rfl) ?_
        refine V_iload_n C 2 dX12_calls_86 rfl rfl ?_
        refine V_iconst C dX12_calls_87 kc_i_2 ?_
        refine V_idiv C dX12_calls_88 (by decide) ?_
        obtain ⟨a20, S21, e19, h⟩ := bnd2_s h
        refine W_callvi C cf_X12_calls (hrc _ _ _ _ e19) q_ML_X12_257 (ws_X12 sk_172) rfl dX12_calls_89 (by omega) rfl rfl (Nat.le_of_ble_eq_true rfl) ?_
        exact V_iret C X dX12_calls_92 ⟨ri_1 h, ri_2 h⟩
      · replace h := ifn c3 h
        by_cases c4 : v1 = 5
        · replace h := ifp c4 h
          refine V_table C rfl dX12_calls_1 (off := 111) (by rw [c4]; decide +kernel) (tgt := 112) rfl ?_
          refine V_aload_n C 0 dX12_calls_112 rfl rfl ?_
          refine V_bipush C dX12_calls_113 kc_b_70 ?_
          obtain ⟨S23, e22, h⟩ := bnd_s h
          refine W_callvn C cf_X12_begins (c_X12_begins e22) q_ML_X12_251 (ws_X12 sk_172) rfl dX12_calls_115 (by omega) rfl rfl (Nat.le_of_ble_eq_true rfl) ?_
          refine V_bipush C dX12_calls_118 kc_b_8 ?_
          exact V_iret C X dX12_calls_120 ⟨ri_1 h, ri_2 h⟩
        · replace h := ifn c4 h
          by_cases c5 : v1 = 6
          · replace h := ifp c5 h
            refine V_table C rfl dX12_calls_1 (off := 92) (by rw [c5]; decide +kernel) (tgt := 93) rfl ?_
            refine V_aload_n C 0 dX12_calls_93 rfl rfl ?_
            refine V_bipush C dX12_calls_94 kc_b_60 ?_
            obtain ⟨S25, e24, h⟩ := bnd_s h
            refine W_callvn C cf_X12_begins (c_X12_begins e24) q_ML_X12_251 (ws_X12 sk_172) rfl dX12_calls_96 (by omega) rfl rfl (Nat.le_of_ble_eq_true rfl) ?_
            refine V_aload_n C 0 dX12_calls_99 rfl rfl ?_
            refine V_bipush C dX12_calls_100 kc_b_6 ?_
            obtain ⟨a27, e26, h⟩ := bnd_s h
            refine W_callsi C cf_X12_above (c_X12_above e26) q_ML_X12_254 dX12_calls_102 (by omega) rfl rfl (Nat.le_of_ble_eq_true rfl) ?_
            refine V_iload_n C 2 dX12_calls_105 rfl rfl ?_
            obtain ⟨a29, S30, e28, h⟩ := bnd2_s h
            refine W_callvi C cf_X12_calls (hrc _ _ _ _ e28) q_ML_X12_257 (ws_X12 sk_172) rfl dX12_calls_106 (by omega) rfl rfl (Nat.le_of_ble_eq_true rfl) ?_
            refine V_iconst C dX12_calls_109 kc_i_3 ?_
            refine V_imul C dX12_calls_110 ?_
            exact V_iret C X dX12_calls_111 ⟨ri_1 h, ri_2 h⟩
          · replace h := ifn c5 h
            refine V_table C rfl dX12_calls_1 (swt_d [(0 : Int32), (1 : Int32), (3 : Int32), (5 : Int32), (6 : Int32)] (List.forall_mem_cons.mpr ⟨c1, (List.forall_mem_cons.mpr ⟨c2, (List.forall_mem_cons.mpr ⟨c3, (List.forall_mem_cons.mpr ⟨c4, (List.forall_mem_cons.mpr ⟨c5, (fun _ h => absurd h List.not_mem_nil)⟩)⟩)⟩)⟩)⟩) rfl (by decide +kernel)) (tgt := 121) rfl ?_
            refine V_aload_n C 0 dX12_calls_121 rfl rfl ?_
            refine V_iload_n C 1 dX12_calls_122 rfl rfl ?_
            obtain ⟨a32, e31, h⟩ := bnd_s h
            refine W_callsi C cf_X12_above (c_X12_above e31) q_ML_X12_254 dX12_calls_123 (by omega) rfl rfl (Nat.le_of_ble_eq_true rfl) ?_
            refine V_iload_n C 2 dX12_calls_126 rfl rfl ?_
            obtain ⟨a34, S35, e33, h⟩ := bnd2_s h
            refine W_callvi C cf_X12_calls (hrc _ _ _ _ e33) q_ML_X12_257 (ws_X12 sk_172) rfl dX12_calls_127 (by omega) rfl rfl (Nat.le_of_ble_eq_true rfl) ?_
            exact V_iret C X dX12_calls_130 ⟨ri_1 h, ri_2 h⟩
theorem c_X12_calls {ε : eT} : ∀ (d : Nat) {S : St} {v1 : Int32} {v2 : Int32} {res : (Int32 × St)}, f_X12_calls d S v1 v2 = some res → CI ε yX12_calls cX12_calls 3 (some .int) (8 + 1 * d) [.ref (eA ε 172), .int v1, .int v2] S (some (.int res.1)) res.2 := by
  intro d
  induction d with
  | zero => intro S v1 v2 res  h; cases h
  | succ d ih =>
    intro S v1 v2 res  h
    rw [show 8 + 1 * (d + 1) = (8 + 1 * d) + 1 from by omega]
    exact CI_of (by decide) (Nat.le_of_ble_eq_true rfl) rfl (fun κ C X => v_X12_calls_e C X (rc := f_X12_calls d) (fun S v1 v2 res h => ih h) (by omega) h)
def f_X12_buys : Nat → St → Int32 → Int32 → Option (Int32 × St)
  | 0, _, _, _ => none
  | d + 1, S, v1, v2 =>
    (if v1 = 0 then
     bnd (f_X12_begins S (11 : Int32)) (fun S5 =>
     bnd (f_X12_kindNow S5) (fun a7 =>
     bnd2 (f_X12_calls 8 S5 a7 v2) (fun a9 S10 =>
     some ((a9 * (2 : Int32)), S10))))
     else
     (if v1 = 2 then
     bnd (f_X12_begins S (30 : Int32)) (fun S12 =>
     bnd (f_X12_above S12 (2 : Int32)) (fun a14 =>
     bnd2 ((f_X12_buys d) S12 a14 v2) (fun a16 S17 =>
     some (((0 : Int32) - a16), S17))))
     else
     (if v1 = 5 then
     bnd (f_X12_begins S (71 : Int32)) (fun S19 =>
     bnd (f_X12_above S19 (5 : Int32)) (fun a21 =>
     bnd2 ((f_X12_buys d) S19 a21 v2) (fun a23 S24 =>
     some ((a23 + (S24.1 172 14)), S24))))
     else
     bnd (f_X12_above S v1) (fun a26 =>
     bnd2 ((f_X12_buys d) S a26 v2) (fun a28 S29 =>
     some (a28, S29))))))
def g_X12_buys (rc : St → Int32 → Int32 → Option (Int32 × St)) (S : St) (v1 : Int32) (v2 : Int32) : Option (Int32 × St) :=
 (if v1 = 0 then
     bnd (f_X12_begins S (11 : Int32)) (fun S5 =>
     bnd (f_X12_kindNow S5) (fun a7 =>
     bnd2 (f_X12_calls 8 S5 a7 v2) (fun a9 S10 =>
     some ((a9 * (2 : Int32)), S10))))
     else
     (if v1 = 2 then
     bnd (f_X12_begins S (30 : Int32)) (fun S12 =>
     bnd (f_X12_above S12 (2 : Int32)) (fun a14 =>
     bnd2 (rc S12 a14 v2) (fun a16 S17 =>
     some (((0 : Int32) - a16), S17))))
     else
     (if v1 = 5 then
     bnd (f_X12_begins S (71 : Int32)) (fun S19 =>
     bnd (f_X12_above S19 (5 : Int32)) (fun a21 =>
     bnd2 (rc S19 a21 v2) (fun a23 S24 =>
     some ((a23 + (S24.1 172 14)), S24))))
     else
     bnd (f_X12_above S v1) (fun a26 =>
     bnd2 (rc S a26 v2) (fun a28 S29 =>
     some (a28, S29))))))
set_option maxRecDepth 20000 in
theorem v_X12_buys_e {ε : eT} {κ : kT} {rc : St → Int32 → Int32 → Option (Int32 × St)} {e : Nat} (C : Act ε κ cX12_buys 3 RX12 (e + 1)) {S : St} {res : (Int32 × St)} (X : RI ε κ (some .int) (some (.int res.1)) res.2) (hrc : ∀ (S : St) (v1 : Int32) (v2 : Int32) (res : (Int32 × St)), rc S v1 v2 = some res → CI ε yX12_buys cX12_buys 3 (some .int) e [.ref (eA ε 172), .int v1, .int v2] S (some (.int res.1)) res.2) (he : 18 ≤ e) {v1 : Int32} {v2 : Int32} (h : g_X12_buys rc S v1 v2 = some res) : V ε κ 3 0 [(0, .ref (eA ε 172)), (1, .int v1), (2, .int v2)] [] (wsOf ε S) 0 0 := by
  unfold g_X12_buys at h
  refine V_iload_n C 1 dX12_buys_0 rfl rfl ?_
  by_cases c1 : v1 = 0
  · replace h := ifp c1 h
    refine V_lookup C dX12_buys_1 (by decide +kernel) (off := 35) (by rw [c1]; decide +kernel) (tgt := 36) rfl ?_
    refine V_aload_n C 0 dX12_buys_36 rfl rfl ?_
    refine V_bipush C dX12_buys_37 kc_b_11 ?_
    obtain ⟨S5, e4, h⟩ := bnd_s h
    refine W_callvn C cf_X12_begins (c_X12_begins e4) q_ML_X12_251 (ws_X12 sk_172) rfl dX12_buys_39 (by omega) rfl rfl (Nat.le_of_ble_eq_true rfl) ?_
    refine V_aload_n C 0 dX12_buys_42 rfl rfl ?_
    refine V_aload_n C 0 dX12_buys_43 rfl rfl ?_
    obtain ⟨a7, e6, h⟩ := bnd_s h
    refine W_callvi C cf_X12_kindNow (c_X12_kindNow e6) q_ML_X12_260 (ws_X12 sk_172) rfl dX12_buys_44 (by omega) rfl rfl (Nat.le_of_ble_eq_true rfl) ?_
    refine V_iload_n C 2 dX12_buys_47 rfl rfl ?_
    obtain ⟨a9, S10, e8, h⟩ := bnd2_s h
    refine W_callvi C cf_X12_calls (c_X12_calls 8 e8) q_ML_X12_257 (ws_X12 sk_172) rfl dX12_buys_48 (by omega) rfl rfl (Nat.le_of_ble_eq_true rfl) ?_
    refine V_iconst C dX12_buys_51 kc_i_2 ?_
    refine V_imul C dX12_buys_52 ?_
    exact V_iret C X dX12_buys_53 ⟨ri_1 h, ri_2 h⟩
  · replace h := ifn c1 h
    by_cases c2 : v1 = 2
    · replace h := ifp c2 h
      refine V_lookup C dX12_buys_1 (by decide +kernel) (off := 53) (by rw [c2]; decide +kernel) (tgt := 54) rfl ?_
      refine V_aload_n C 0 dX12_buys_54 rfl rfl ?_
      refine V_bipush C dX12_buys_55 kc_b_30 ?_
      obtain ⟨S12, e11, h⟩ := bnd_s h
      refine W_callvn C cf_X12_begins (c_X12_begins e11) q_ML_X12_251 (ws_X12 sk_172) rfl dX12_buys_57 (by omega) rfl rfl (Nat.le_of_ble_eq_true rfl) ?_
      refine V_iconst C dX12_buys_60 kc_i_0 ?_
      refine V_aload_n C 0 dX12_buys_61 rfl rfl ?_
      refine V_iconst C dX12_buys_62 kc_i_2 ?_
      obtain ⟨a14, e13, h⟩ := bnd_s h
      refine W_callsi C cf_X12_above (c_X12_above e13) q_ML_X12_254 dX12_buys_63 (by omega) rfl rfl (Nat.le_of_ble_eq_true rfl) ?_
      refine V_iload_n C 2 dX12_buys_66 rfl rfl ?_
      obtain ⟨a16, S17, e15, h⟩ := bnd2_s h
      refine W_callvi C cf_X12_buys (hrc _ _ _ _ e15) q_ML_X12_263 (ws_X12 sk_172) rfl dX12_buys_67 (by omega) rfl rfl (Nat.le_of_ble_eq_true rfl) ?_
      refine V_isub C dX12_buys_70 ?_
      exact V_iret C X dX12_buys_71 ⟨ri_1 h, ri_2 h⟩
    · replace h := ifn c2 h
      by_cases c3 : v1 = 5
      · replace h := ifp c3 h
        refine V_lookup C dX12_buys_1 (by decide +kernel) (off := 71) (by rw [c3]; decide +kernel) (tgt := 72) rfl ?_
        refine V_aload_n C 0 dX12_buys_72 rfl rfl ?_
        refine V_bipush C dX12_buys_73 kc_b_71 ?_
        obtain ⟨S19, e18, h⟩ := bnd_s h
        refine W_callvn C cf_X12_begins (c_X12_begins e18) q_ML_X12_251 (ws_X12 sk_172) rfl dX12_buys_75 (by omega) rfl rfl (Nat.le_of_ble_eq_true rfl) ?_
        refine V_aload_n C 0 dX12_buys_78 rfl rfl ?_
        refine V_iconst C dX12_buys_79 kc_i_5 ?_
        obtain ⟨a21, e20, h⟩ := bnd_s h
        refine W_callsi C cf_X12_above (c_X12_above e20) q_ML_X12_254 dX12_buys_80 (by omega) rfl rfl (Nat.le_of_ble_eq_true rfl) ?_
        refine V_iload_n C 2 dX12_buys_83 rfl rfl ?_
        obtain ⟨a23, S24, e22, h⟩ := bnd2_s h
        refine W_callvi C cf_X12_buys (hrc _ _ _ _ e22) q_ML_X12_263 (ws_X12 sk_172) rfl dX12_buys_84 (by omega) rfl rfl (Nat.le_of_ble_eq_true rfl) ?_
        refine V_aload_n C 0 dX12_buys_87 rfl rfl ?_
        refine G_X12_speaks (q := 172) C sk_172 q_FL_X12_248 dX12_buys_88 ?_
        refine V_iadd C dX12_buys_91 ?_
        exact V_iret C X dX12_buys_92 ⟨ri_1 h, ri_2 h⟩
      · replace h := ifn c3 h
        refine V_lookup C dX12_buys_1 (by decide +kernel) (lks_d [(0 : Int32), (2 : Int32), (5 : Int32)] (List.forall_mem_cons.mpr ⟨c1, (List.forall_mem_cons.mpr ⟨c2, (List.forall_mem_cons.mpr ⟨c3, (fun _ h => absurd h List.not_mem_nil)⟩)⟩)⟩) (by decide +kernel)) (tgt := 93) rfl ?_
        refine V_aload_n C 0 dX12_buys_93 rfl rfl ?_
        refine V_iload_n C 1 dX12_buys_94 rfl rfl ?_
        obtain ⟨a26, e25, h⟩ := bnd_s h
        refine W_callsi C cf_X12_above (c_X12_above e25) q_ML_X12_254 dX12_buys_95 (by omega) rfl rfl (Nat.le_of_ble_eq_true rfl) ?_
        refine V_iload_n C 2 dX12_buys_98 rfl rfl ?_
        obtain ⟨a28, S29, e27, h⟩ := bnd2_s h
        refine W_callvi C cf_X12_buys (hrc _ _ _ _ e27) q_ML_X12_263 (ws_X12 sk_172) rfl dX12_buys_99 (by omega) rfl rfl (Nat.le_of_ble_eq_true rfl) ?_
        exact V_iret C X dX12_buys_102 ⟨ri_1 h, ri_2 h⟩
theorem c_X12_buys {ε : eT} : ∀ (d : Nat) {S : St} {v1 : Int32} {v2 : Int32} {res : (Int32 × St)}, f_X12_buys d S v1 v2 = some res → CI ε yX12_buys cX12_buys 3 (some .int) (18 + 1 * d) [.ref (eA ε 172), .int v1, .int v2] S (some (.int res.1)) res.2 := by
  intro d
  induction d with
  | zero => intro S v1 v2 res  h; cases h
  | succ d ih =>
    intro S v1 v2 res  h
    rw [show 18 + 1 * (d + 1) = (18 + 1 * d) + 1 from by omega]
    exact CI_of (by decide) (Nat.le_of_ble_eq_true rfl) rfl (fun κ C X => v_X12_buys_e C X (rc := f_X12_buys d) (fun S v1 v2 res h => ih h) (by omega) h)
def f_X12_check_104 (N : Nat) (K38 : St → Int32 → Int32 → Int32 → Int32 → Int32 → Option (Int32 × St)) (S : St) (v1 : Int32) (v2 : Int32) (v3 : Int32) (v4 : Int32) (v5 : Int32) : Option (Int32 × St) :=
 K38 S v1 v2 v3 v4 (v5 + 1)
set_option maxRecDepth 20000 in
theorem v_X12_check_104 {ε : eT} {κ : kT} {N : Nat} (C : Act ε κ cX12_check 6 RX12 3) {S : St} {res : (Int32 × St)} (X : RI ε κ (some .int) (some (.int res.1)) res.2) {K38 : St → Int32 → Int32 → Int32 → Int32 → Int32 → Option (Int32 × St)} (hK38 : ∀ (S : St) (v1 : Int32) (v2 : Int32) (v3 : Int32) (v4 : Int32) (v5 : Int32), K38 S v1 v2 v3 v4 v5 = some res → V ε κ 6 38 [(0, .ref (eA ε 172)), (1, .int v1), (2, .int v2), (3, .int v3), (4, .int v4), (5, .int v5)] [] (wsOf ε S) 0 0) {v1 : Int32} {v2 : Int32} {v3 : Int32} {v4 : Int32} {v5 : Int32} (h : f_X12_check_104 N K38 S v1 v2 v3 v4 v5 = some res) : V ε κ 6 104 [(0, .ref (eA ε 172)), (1, .int v1), (2, .int v2), (3, .int v3), (4, .int v4), (5, .int v5)] [] (wsOf ε S) 0 0 := by
  unfold f_X12_check_104 at h
  refine V_iinc (v := (v5 + 1)) (lv' := [(5, .int (v5 + 1)), (0, .ref (eA ε 172)), (1, .int v1), (2, .int v2), (3, .int v3), (4, .int v4)]) C 5 dX12_check_104 rfl (congrArg _ kc_i_1) (by decide) rfl ?_
  refine V_goto C dX12_check_107 rfl ?_
  refine V_sub C [1, 2, 3, 4, 5, 0] rfl ?_
  exact hK38 _ _ _ _ _ _ h
def f_X12_check_102 (N : Nat) (K38 : St → Int32 → Int32 → Int32 → Int32 → Int32 → Option (Int32 × St)) (S : St) (v1 : Int32) (v2 : Int32) (v4 : Int32) (v5 : Int32) (s0 : Int32) (s1 : Int32) : Option (Int32 × St) :=
 f_X12_check_104 N K38 S v1 v2 (s1 + s0) v4 v5
set_option maxRecDepth 20000 in
theorem v_X12_check_102 {ε : eT} {κ : kT} {N : Nat} (C : Act ε κ cX12_check 6 RX12 3) {S : St} {res : (Int32 × St)} (X : RI ε κ (some .int) (some (.int res.1)) res.2) {K38 : St → Int32 → Int32 → Int32 → Int32 → Int32 → Option (Int32 × St)} (hK38 : ∀ (S : St) (v1 : Int32) (v2 : Int32) (v3 : Int32) (v4 : Int32) (v5 : Int32), K38 S v1 v2 v3 v4 v5 = some res → V ε κ 6 38 [(0, .ref (eA ε 172)), (1, .int v1), (2, .int v2), (3, .int v3), (4, .int v4), (5, .int v5)] [] (wsOf ε S) 0 0) {v1 : Int32} {v2 : Int32} {v4 : Int32} {v5 : Int32} {s0 : Int32} {s1 : Int32} (h : f_X12_check_102 N K38 S v1 v2 v4 v5 s0 s1 = some res) : V ε κ 6 102 [(0, .ref (eA ε 172)), (1, .int v1), (2, .int v2), (4, .int v4), (5, .int v5)] [.int s0, .int s1] (wsOf ε S) 0 0 := by
  unfold f_X12_check_102 at h
  refine V_iadd C dX12_check_102 ?_
  refine V_istore_n (lv' := [(3, .int (s1 + s0)), (0, .ref (eA ε 172)), (1, .int v1), (2, .int v2), (4, .int v4), (5, .int v5)]) C dX12_check_103 rfl (by decide) rfl ?_
  refine V_sub C [1, 2, 3, 0, 4, 5] rfl ?_
  exact v_X12_check_104 C X hK38 h
def f_X12_check_89 (N : Nat) (K38 : St → Int32 → Int32 → Int32 → Int32 → Int32 → Option (Int32 × St)) (S : St) (v1 : Int32) (v2 : Int32) (v3 : Int32) (v5 : Int32) (s0 : Int32) : Option (Int32 × St) :=
 (if s0 = 0 then
 f_X12_check_102 N K38 S v1 v2 s0 v5 (0 : Int32) v3
 else
 f_X12_check_102 N K38 S v1 v2 s0 v5 (1 : Int32) v3)
set_option maxRecDepth 20000 in
theorem v_X12_check_89 {ε : eT} {κ : kT} {N : Nat} (C : Act ε κ cX12_check 6 RX12 3) {S : St} {res : (Int32 × St)} (X : RI ε κ (some .int) (some (.int res.1)) res.2) {K38 : St → Int32 → Int32 → Int32 → Int32 → Int32 → Option (Int32 × St)} (hK38 : ∀ (S : St) (v1 : Int32) (v2 : Int32) (v3 : Int32) (v4 : Int32) (v5 : Int32), K38 S v1 v2 v3 v4 v5 = some res → V ε κ 6 38 [(0, .ref (eA ε 172)), (1, .int v1), (2, .int v2), (3, .int v3), (4, .int v4), (5, .int v5)] [] (wsOf ε S) 0 0) {v1 : Int32} {v2 : Int32} {v3 : Int32} {v5 : Int32} {s0 : Int32} (h : f_X12_check_89 N K38 S v1 v2 v3 v5 s0 = some res) : V ε κ 6 89 [(0, .ref (eA ε 172)), (1, .int v1), (2, .int v2), (3, .int v3), (5, .int v5)] [.int s0] (wsOf ε S) 0 0 := by
  unfold f_X12_check_89 at h
  refine V_istore (lv' := [(4, .int s0), (0, .ref (eA ε 172)), (1, .int v1), (2, .int v2), (3, .int v3), (5, .int v5)]) C dX12_check_89 (by decide) rfl ?_
  refine V_iload_n C 4 dX12_check_91 rfl rfl ?_
  refine V_iload C 0 dX12_check_92 rfl ?_
  refine V_if_eq C dX12_check_94 rfl (fun c1 => ?_) (fun c1 => ?_)
  · replace h := ifp c1 h
    refine V_iconst C dX12_check_101 kc_i_0 ?_
    refine V_sub C [1, 2, 3, 0, 5] rfl ?_
    exact v_X12_check_102 C X hK38 h
  · replace h := ifn c1 h
    refine V_iconst C dX12_check_97 kc_i_1 ?_
    refine V_goto C dX12_check_98 rfl ?_
    refine V_sub C [1, 2, 3, 0, 5] rfl ?_
    exact v_X12_check_102 C X hK38 h
def f_X12_check_88 (N : Nat) (K38 : St → Int32 → Int32 → Int32 → Int32 → Int32 → Option (Int32 × St)) (S : St) (v1 : Int32) (v2 : Int32) (v3 : Int32) (v5 : Int32) : Option (Int32 × St) :=
 f_X12_check_89 N K38 S v1 v2 v3 v5 (0 : Int32)
set_option maxRecDepth 20000 in
theorem v_X12_check_88 {ε : eT} {κ : kT} {N : Nat} (C : Act ε κ cX12_check 6 RX12 3) {S : St} {res : (Int32 × St)} (X : RI ε κ (some .int) (some (.int res.1)) res.2) {K38 : St → Int32 → Int32 → Int32 → Int32 → Int32 → Option (Int32 × St)} (hK38 : ∀ (S : St) (v1 : Int32) (v2 : Int32) (v3 : Int32) (v4 : Int32) (v5 : Int32), K38 S v1 v2 v3 v4 v5 = some res → V ε κ 6 38 [(0, .ref (eA ε 172)), (1, .int v1), (2, .int v2), (3, .int v3), (4, .int v4), (5, .int v5)] [] (wsOf ε S) 0 0) {v1 : Int32} {v2 : Int32} {v3 : Int32} {v5 : Int32} (h : f_X12_check_88 N K38 S v1 v2 v3 v5 = some res) : V ε κ 6 88 [(0, .ref (eA ε 172)), (1, .int v1), (2, .int v2), (3, .int v3), (5, .int v5)] [] (wsOf ε S) 0 0 := by
  unfold f_X12_check_88 at h
  refine V_iconst C dX12_check_88 kc_i_0 ?_
  exact v_X12_check_89 C X hK38 h
def f_X12_check_124 (N : Nat) (S : St) (v3 : Int32) : Option (Int32 × St) :=
 some (((1 : Int32) + v3), S)
set_option maxRecDepth 20000 in
theorem v_X12_check_124 {ε : eT} {κ : kT} {N : Nat} (C : Act ε κ cX12_check 6 RX12 3) {S : St} {res : (Int32 × St)} (X : RI ε κ (some .int) (some (.int res.1)) res.2) {v3 : Int32} (h : f_X12_check_124 N S v3 = some res) : V ε κ 6 124 [(3, .int v3)] [] (wsOf ε S) 0 0 := by
  unfold f_X12_check_124 at h
  refine V_iconst C dX12_check_124 kc_i_1 ?_
  refine V_iload_n C 0 dX12_check_125 rfl rfl ?_
  refine V_iadd C dX12_check_126 ?_
  exact V_iret C X dX12_check_127 ⟨ri_1 h, ri_2 h⟩
def f_X12_check_110 (N : Nat) (S : St) (v2 : Int32) (v3 : Int32) (v4 : Int32) : Option (Int32 × St) :=
 (if v4 = 0 then
 f_X12_check_124 N S v3
 else
 (if v3 = v2 then
 some ((0 : Int32), S)
 else
 f_X12_check_124 N S v3))
set_option maxRecDepth 20000 in
theorem v_X12_check_110 {ε : eT} {κ : kT} {N : Nat} (C : Act ε κ cX12_check 6 RX12 3) {S : St} {res : (Int32 × St)} (X : RI ε κ (some .int) (some (.int res.1)) res.2) {v2 : Int32} {v3 : Int32} {v4 : Int32} (h : f_X12_check_110 N S v2 v3 v4 = some res) : V ε κ 6 110 [(2, .int v2), (3, .int v3), (4, .int v4)] [] (wsOf ε S) 0 0 := by
  unfold f_X12_check_110 at h
  refine V_iload C 2 dX12_check_110 rfl ?_
  refine V_if_eq C dX12_check_112 rfl (fun c1 => ?_) (fun c1 => ?_)
  · replace h := ifp c1 h
    refine V_sub C [1] rfl ?_
    exact v_X12_check_124 C X h
  · replace h := ifn c1 h
    refine V_iload_n C 1 dX12_check_115 rfl rfl ?_
    refine V_iload_n C 0 dX12_check_116 rfl rfl ?_
    refine V_icmp_ne C dX12_check_117 rfl (fun c2 => ?_) (fun c2 => ?_)
    · replace h := ifn c2 h
      refine V_sub C [1] rfl ?_
      exact v_X12_check_124 C X h
    · replace h := ifp c2 h
      refine V_iconst C dX12_check_120 kc_i_0 ?_
      refine V_goto C dX12_check_121 rfl ?_
      exact V_iret C X dX12_check_127 ⟨ri_1 h, ri_2 h⟩
def f_X12_check_38 (N : Nat) : Nat → St → Int32 → Int32 → Int32 → Int32 → Int32 → Option (Int32 × St)
  | 0, _, _, _, _, _, _ => none
  | n + 1, S, v1, v2, v3, v4, v5 =>
    (if (S.1 173 1) ≤ v5 then
     f_X12_check_110 N S v2 v3 v4
     else
     (if v4 = 0 then
     f_X12_check_110 N S v2 v3 v4
     else
     bnd (f_X12_owner S v5) (fun a4 =>
     (if a4 = v1 then
     (if v2 ≤ v3 then
     f_X12_check_88 N (f_X12_check_38 N n) S v1 v2 v3 v5
     else
     (if inb ((492 : Int32) + v3) 516 = true then
     (if (S.1 173 ((492 : Int32) + v3).toNatClampNeg) = v5 then
     f_X12_check_89 N (f_X12_check_38 N n) S v1 v2 v3 v5 (1 : Int32)
     else
     f_X12_check_88 N (f_X12_check_38 N n) S v1 v2 v3 v5)
     else none))
     else
     f_X12_check_104 N (f_X12_check_38 N n) S v1 v2 v3 v4 v5))))
set_option maxRecDepth 20000 in
theorem v_X12_check_38 {ε : eT} {κ : kT} {N : Nat} (C : Act ε κ cX12_check 6 RX12 3) {res : (Int32 × St)} (X : RI ε κ (some .int) (some (.int res.1)) res.2) : ∀ (n : Nat) (S : St) (v1 : Int32) (v2 : Int32) (v3 : Int32) (v4 : Int32) (v5 : Int32) (h : f_X12_check_38 N n S v1 v2 v3 v4 v5 = some res), V ε κ 6 38 [(0, .ref (eA ε 172)), (1, .int v1), (2, .int v2), (3, .int v3), (4, .int v4), (5, .int v5)] [] (wsOf ε S) 0 0 := by
  intro n
  induction n with
  | zero => intro S v1 v2 v3 v4 v5 h; cases h
  | succ n ih =>
    intro S v1 v2 v3 v4 v5 h
    rw [f_X12_check_38] at h
    refine V_iload C 5 dX12_check_38 rfl ?_
    refine V_aload_n C 0 dX12_check_40 rfl rfl ?_
    refine G_X12_s (q := 172) C sk_172 q_FL_X12_7 dX12_check_41 ?_
    refine V_iconst C dX12_check_44 kc_i_1 ?_
    refine W_ialdc (q := 173) C sk_173 (j := 1) tn_1 (by decide) dX12_check_45 ?_
    refine V_icmp_ge C dX12_check_46 rfl (fun c1 => ?_) (fun c1 => ?_)
    · replace h := ifp c1 h
      refine V_sub C [2, 3, 4] rfl ?_
      exact v_X12_check_110 C X h
    · replace h := ifn c1 h
      refine V_iload C 4 dX12_check_49 rfl ?_
      refine V_if_eq C dX12_check_51 rfl (fun c2 => ?_) (fun c2 => ?_)
      · replace h := ifp c2 h
        refine V_sub C [2, 3, 4] rfl ?_
        exact v_X12_check_110 C X h
      · replace h := ifn c2 h
        refine V_aload_n C 0 dX12_check_54 rfl rfl ?_
        refine V_iload C 5 dX12_check_55 rfl ?_
        obtain ⟨a4, e3, h⟩ := bnd_s h
        refine W_callvi C cf_X12_owner (c_X12_owner e3) q_ML_X12_67 (ws_X12 sk_172) rfl dX12_check_57 (by decide) rfl rfl (Nat.le_of_ble_eq_true rfl) ?_
        refine V_iload_n C 1 dX12_check_60 rfl rfl ?_
        refine V_icmp_ne C dX12_check_61 rfl (fun c5 => ?_) (fun c5 => ?_)
        · replace h := ifn c5 h
          exact v_X12_check_104 C X ih h
        · replace h := ifp c5 h
          refine V_iload_n C 3 dX12_check_64 rfl rfl ?_
          refine V_iload_n C 2 dX12_check_65 rfl rfl ?_
          refine V_icmp_ge C dX12_check_66 rfl (fun c6 => ?_) (fun c6 => ?_)
          · replace h := ifp c6 h
            refine V_sub C [0, 1, 2, 3, 5] rfl ?_
            exact v_X12_check_88 C X ih h
          · replace h := ifn c6 h
            refine V_aload_n C 0 dX12_check_69 rfl rfl ?_
            refine G_X12_s (q := 172) C sk_172 q_FL_X12_7 dX12_check_70 ?_
            refine V_sipush C dX12_check_73 kc_s_492 ?_
            refine V_iload_n C 3 dX12_check_76 rfl rfl ?_
            refine V_iadd C dX12_check_77 ?_
            obtain ⟨g7, h⟩ := gdt h
            refine W_iald (q := 173) C sk_173 g7 dX12_check_78 ?_
            refine V_iload C 5 dX12_check_79 rfl ?_
            refine V_icmp_ne C dX12_check_81 rfl (fun c8 => ?_) (fun c8 => ?_)
            · replace h := ifn c8 h
              refine V_sub C [0, 1, 2, 3, 5] rfl ?_
              exact v_X12_check_88 C X ih h
            · replace h := ifp c8 h
              refine V_iconst C dX12_check_84 kc_i_1 ?_
              refine V_goto C dX12_check_85 rfl ?_
              refine V_sub C [0, 1, 2, 3, 5] rfl ?_
              exact v_X12_check_89 C X ih h
def f_X12_check (N : Nat) (S : St) (v1 : Int32) : Option (Int32 × St) :=
 bnd (f_X12_isPerson (pt S 173 7 (0 : Int32)) v1) (fun a2 =>
 (if a2 = 0 then
 bnd2 (f_X12_error (pt S 173 7 (0 : Int32)) (1 : Int32)) (fun a5 S6 =>
 some (a5, S6))
 else
 f_X12_check_38 N N (pt S 173 7 (0 : Int32)) v1 (S.1 173 7) (0 : Int32) (1 : Int32) (0 : Int32)))
set_option maxRecDepth 20000 in
theorem v_X12_check_e {ε : eT} {κ : kT} {N : Nat} (C : Act ε κ cX12_check 6 RX12 3) {S : St} {res : (Int32 × St)} (X : RI ε κ (some .int) (some (.int res.1)) res.2) {v1 : Int32} (h : f_X12_check N S v1 = some res) : V ε κ 6 0 [(0, .ref (eA ε 172)), (1, .int v1)] [] (wsOf ε S) 0 0 := by
  unfold f_X12_check at h
  refine V_aload_n C 0 dX12_check_0 rfl rfl ?_
  refine G_X12_s (q := 172) C sk_172 q_FL_X12_7 dX12_check_1 ?_
  refine V_bipush C dX12_check_4 kc_b_7 ?_
  refine W_ialdc (q := 173) C sk_173 (j := 7) tn_7 (by decide) dX12_check_6 ?_
  refine V_istore_n (lv' := [(2, .int (S.1 173 7)), (0, .ref (eA ε 172)), (1, .int v1)]) C dX12_check_7 rfl (by decide) rfl ?_
  refine V_aload_n C 1 dX12_check_8 rfl rfl ?_
  refine G_X12_s (q := 172) C sk_172 q_FL_X12_7 dX12_check_9 ?_
  refine V_bipush C dX12_check_12 kc_b_7 ?_
  refine V_iconst C dX12_check_14 kc_i_0 ?_
  refine W_iastc (q := 173) C sk_173 (j := 7) tn_7 (by decide) dX12_check_15 ?_
  refine V_aload_n C 1 dX12_check_16 rfl rfl ?_
  refine V_iload_n C 2 dX12_check_17 rfl rfl ?_
  obtain ⟨a2, e1, h⟩ := bnd_s h
  refine W_callvi C cf_X12_isPerson (c_X12_isPerson e1) q_ML_X12_76 (ws_X12 sk_172) rfl dX12_check_18 (by decide) rfl rfl (Nat.le_of_ble_eq_true rfl) ?_
  refine V_if_ne C dX12_check_21 rfl (fun c3 => ?_) (fun c3 => ?_)
  · replace h := ifn c3 h
    refine V_iconst C dX12_check_30 kc_i_0 ?_
    refine V_istore_n (lv' := [(3, .int (0 : Int32)), (2, .int (S.1 173 7)), (0, .ref (eA ε 172)), (1, .int v1)]) C dX12_check_31 rfl (by decide) rfl ?_
    refine V_iconst C dX12_check_32 kc_i_1 ?_
    refine V_istore (lv' := [(4, .int (1 : Int32)), (3, .int (0 : Int32)), (2, .int (S.1 173 7)), (0, .ref (eA ε 172)), (1, .int v1)]) C dX12_check_33 (by decide) rfl ?_
    refine V_iconst C dX12_check_35 kc_i_0 ?_
    refine V_istore (lv' := [(5, .int (0 : Int32)), (4, .int (1 : Int32)), (3, .int (0 : Int32)), (2, .int (S.1 173 7)), (0, .ref (eA ε 172)), (1, .int v1)]) C dX12_check_36 (by decide) rfl ?_
    refine V_sub C [4, 5, 3, 2, 1, 0] rfl ?_
    exact v_X12_check_38 C X N _ _ _ _ _ _ h
  · replace h := ifp c3 h
    refine V_aload_n C 1 dX12_check_24 rfl rfl ?_
    refine V_iconst C dX12_check_25 kc_i_1 ?_
    obtain ⟨a5, S6, e4, h⟩ := bnd2_s h
    refine W_callvi C cf_X12_error (c_X12_error e4) q_ML_X12_60 (ws_X12 sk_172) rfl dX12_check_26 (by decide) rfl rfl (Nat.le_of_ble_eq_true rfl) ?_
    exact V_iret C X dX12_check_29 ⟨ri_1 h, ri_2 h⟩
theorem c_X12_check {ε : eT} {N : Nat} {S : St} {v1 : Int32} {res : (Int32 × St)} (h : f_X12_check N S v1 = some res) : CI ε yX12_check cX12_check 6 (some .int) 3 [.ref (eA ε 172), .int v1] S (some (.int res.1)) res.2 := CI_of (by decide) (Nat.le_of_ble_eq_true rfl) rfl (fun κ C X => v_X12_check_e C X h)
def f_X12_count (S : St) (v1 : Int32) : Option (Int32 × St) :=
 (if v1 = 0 then
 some ((S.1 173 0), S)
 else
 (if v1 = 1 then
 some ((S.1 173 1), S)
 else
 (if v1 = 2 then
 some ((S.1 173 2), S)
 else
 (if v1 = 3 then
 some ((S.1 173 3), S)
 else
 (if v1 = 4 then
 some ((S.1 173 6), S)
 else
 (if v1 = 5 then
 some ((S.1 173 7), S)
 else
 (if v1 = 6 then
 some ((S.1 172 13), S)
 else
 (if v1 = 7 then
 some ((S.1 173 8), S)
 else
 bnd2 (f_X12_error S (1 : Int32)) (fun a10 S11 =>
 some (a10, S11))))))))))
set_option maxRecDepth 20000 in
theorem v_X12_count_e {ε : eT} {κ : kT} (C : Act ε κ cX12_count 2 RX12 2) {S : St} {res : (Int32 × St)} (X : RI ε κ (some .int) (some (.int res.1)) res.2) {v1 : Int32} (h : f_X12_count S v1 = some res) : V ε κ 2 0 [(0, .ref (eA ε 172)), (1, .int v1)] [] (wsOf ε S) 0 0 := by
  unfold f_X12_count at h
  refine V_iload_n C 1 dX12_count_0 rfl rfl ?_
  by_cases c1 : v1 = 0
  · replace h := ifp c1 h
    refine V_table C rfl dX12_count_1 (off := 47) (by rw [c1]; decide +kernel) (tgt := 48) rfl ?_
    refine V_aload_n C 0 dX12_count_48 rfl rfl ?_
    refine G_X12_s (q := 172) C sk_172 q_FL_X12_7 dX12_count_49 ?_
    refine V_iconst C dX12_count_52 kc_i_0 ?_
    refine W_ialdc (q := 173) C sk_173 (j := 0) tn_0 (by decide) dX12_count_53 ?_
    exact V_iret C X dX12_count_54 ⟨ri_1 h, ri_2 h⟩
  · replace h := ifn c1 h
    by_cases c2 : v1 = 1
    · replace h := ifp c2 h
      refine V_table C rfl dX12_count_1 (off := 54) (by rw [c2]; decide +kernel) (tgt := 55) rfl ?_
      refine V_aload_n C 0 dX12_count_55 rfl rfl ?_
      refine G_X12_s (q := 172) C sk_172 q_FL_X12_7 dX12_count_56 ?_
      refine V_iconst C dX12_count_59 kc_i_1 ?_
      refine W_ialdc (q := 173) C sk_173 (j := 1) tn_1 (by decide) dX12_count_60 ?_
      exact V_iret C X dX12_count_61 ⟨ri_1 h, ri_2 h⟩
    · replace h := ifn c2 h
      by_cases c3 : v1 = 2
      · replace h := ifp c3 h
        refine V_table C rfl dX12_count_1 (off := 61) (by rw [c3]; decide +kernel) (tgt := 62) rfl ?_
        refine V_aload_n C 0 dX12_count_62 rfl rfl ?_
        refine G_X12_s (q := 172) C sk_172 q_FL_X12_7 dX12_count_63 ?_
        refine V_iconst C dX12_count_66 kc_i_2 ?_
        refine W_ialdc (q := 173) C sk_173 (j := 2) tn_2 (by decide) dX12_count_67 ?_
        exact V_iret C X dX12_count_68 ⟨ri_1 h, ri_2 h⟩
      · replace h := ifn c3 h
        by_cases c4 : v1 = 3
        · replace h := ifp c4 h
          refine V_table C rfl dX12_count_1 (off := 68) (by rw [c4]; decide +kernel) (tgt := 69) rfl ?_
          refine V_aload_n C 0 dX12_count_69 rfl rfl ?_
          refine G_X12_s (q := 172) C sk_172 q_FL_X12_7 dX12_count_70 ?_
          refine V_iconst C dX12_count_73 kc_i_3 ?_
          refine W_ialdc (q := 173) C sk_173 (j := 3) tn_3 (by decide) dX12_count_74 ?_
          exact V_iret C X dX12_count_75 ⟨ri_1 h, ri_2 h⟩
        · replace h := ifn c4 h
          by_cases c5 : v1 = 4
          · replace h := ifp c5 h
            refine V_table C rfl dX12_count_1 (off := 75) (by rw [c5]; decide +kernel) (tgt := 76) rfl ?_
            refine V_aload_n C 0 dX12_count_76 rfl rfl ?_
            refine G_X12_s (q := 172) C sk_172 q_FL_X12_7 dX12_count_77 ?_
            refine V_bipush C dX12_count_80 kc_b_6 ?_
            refine W_ialdc (q := 173) C sk_173 (j := 6) tn_6 (by decide) dX12_count_82 ?_
            exact V_iret C X dX12_count_83 ⟨ri_1 h, ri_2 h⟩
          · replace h := ifn c5 h
            by_cases c6 : v1 = 5
            · replace h := ifp c6 h
              refine V_table C rfl dX12_count_1 (off := 83) (by rw [c6]; decide +kernel) (tgt := 84) rfl ?_
              refine V_aload_n C 0 dX12_count_84 rfl rfl ?_
              refine G_X12_s (q := 172) C sk_172 q_FL_X12_7 dX12_count_85 ?_
              refine V_bipush C dX12_count_88 kc_b_7 ?_
              refine W_ialdc (q := 173) C sk_173 (j := 7) tn_7 (by decide) dX12_count_90 ?_
              exact V_iret C X dX12_count_91 ⟨ri_1 h, ri_2 h⟩
            · replace h := ifn c6 h
              by_cases c7 : v1 = 6
              · replace h := ifp c7 h
                refine V_table C rfl dX12_count_1 (off := 91) (by rw [c7]; decide +kernel) (tgt := 92) rfl ?_
                refine V_aload_n C 0 dX12_count_92 rfl rfl ?_
                refine G_X12_traced (q := 172) C sk_172 q_FL_X12_245 dX12_count_93 ?_
                exact V_iret C X dX12_count_96 ⟨ri_1 h, ri_2 h⟩
              · replace h := ifn c7 h
                by_cases c8 : v1 = 7
                · replace h := ifp c8 h
                  refine V_table C rfl dX12_count_1 (off := 96) (by rw [c8]; decide +kernel) (tgt := 97) rfl ?_
                  refine V_aload_n C 0 dX12_count_97 rfl rfl ?_
                  refine G_X12_s (q := 172) C sk_172 q_FL_X12_7 dX12_count_98 ?_
                  refine V_bipush C dX12_count_101 kc_b_8 ?_
                  refine W_ialdc (q := 173) C sk_173 (j := 8) tn_8 (by decide) dX12_count_103 ?_
                  exact V_iret C X dX12_count_104 ⟨ri_1 h, ri_2 h⟩
                · replace h := ifn c8 h
                  refine V_table C rfl dX12_count_1 (swt_d [(0 : Int32), (1 : Int32), (2 : Int32), (3 : Int32), (4 : Int32), (5 : Int32), (6 : Int32), (7 : Int32)] (List.forall_mem_cons.mpr ⟨c1, (List.forall_mem_cons.mpr ⟨c2, (List.forall_mem_cons.mpr ⟨c3, (List.forall_mem_cons.mpr ⟨c4, (List.forall_mem_cons.mpr ⟨c5, (List.forall_mem_cons.mpr ⟨c6, (List.forall_mem_cons.mpr ⟨c7, (List.forall_mem_cons.mpr ⟨c8, (fun _ h => absurd h List.not_mem_nil)⟩)⟩)⟩)⟩)⟩)⟩)⟩)⟩) rfl (by decide +kernel)) (tgt := 105) rfl ?_
                  refine V_aload_n C 0 dX12_count_105 rfl rfl ?_
                  refine V_iconst C dX12_count_106 kc_i_1 ?_
                  obtain ⟨a10, S11, e9, h⟩ := bnd2_s h
                  refine W_callvi C cf_X12_error (c_X12_error e9) q_ML_X12_60 (ws_X12 sk_172) rfl dX12_count_107 (by decide) rfl rfl (Nat.le_of_ble_eq_true rfl) ?_
                  exact V_iret C X dX12_count_110 ⟨ri_1 h, ri_2 h⟩
theorem c_X12_count {ε : eT} {S : St} {v1 : Int32} {res : (Int32 × St)} (h : f_X12_count S v1 = some res) : CI ε yX12_count cX12_count 2 (some .int) 2 [.ref (eA ε 172), .int v1] S (some (.int res.1)) res.2 := CI_of (by decide) (Nat.le_of_ble_eq_true rfl) rfl (fun κ C X => v_X12_count_e C X h)
def f_X12_draw (S : St) : Option (Int32 × St) :=
 some ((((pt S 173 8 (((S.1 173 8) * (1103515245 : Int32)) + (12345 : Int32))).1 173 8).toUInt32 >>> ((8 : Int32).toUInt32 &&& Int32.toUInt32 31)).toInt32, (pt S 173 8 (((S.1 173 8) * (1103515245 : Int32)) + (12345 : Int32))))
set_option maxRecDepth 20000 in
theorem v_X12_draw_e {ε : eT} {κ : kT} (C : Act ε κ cX12_draw 1 RX12 1) {S : St} {res : (Int32 × St)} (X : RI ε κ (some .int) (some (.int res.1)) res.2) (h : f_X12_draw S = some res) : V ε κ 1 0 [(0, .ref (eA ε 172))] [] (wsOf ε S) 0 0 := by
  unfold f_X12_draw at h
  refine V_aload_n C 0 dX12_draw_0 rfl rfl ?_
  refine G_X12_s (q := 172) C sk_172 q_FL_X12_7 dX12_draw_1 ?_
  refine V_bipush C dX12_draw_4 kc_b_8 ?_
  refine V_aload_n C 0 dX12_draw_6 rfl rfl ?_
  refine G_X12_s (q := 172) C sk_172 q_FL_X12_7 dX12_draw_7 ?_
  refine V_bipush C dX12_draw_10 kc_b_8 ?_
  refine W_ialdc (q := 173) C sk_173 (j := 8) tn_8 (by decide) dX12_draw_12 ?_
  refine V_ldc C q_K_X12_180 dX12_draw_13 ?_
  refine V_imul C dX12_draw_15 ?_
  refine V_sipush C dX12_draw_16 kc_s_12345 ?_
  refine V_iadd C dX12_draw_19 ?_
  refine W_iastc (q := 173) C sk_173 (j := 8) tn_8 (by decide) dX12_draw_20 ?_
  refine V_aload_n C 0 dX12_draw_21 rfl rfl ?_
  refine G_X12_s (q := 172) C sk_172 q_FL_X12_7 dX12_draw_22 ?_
  refine V_bipush C dX12_draw_25 kc_b_8 ?_
  refine W_ialdc (q := 173) C sk_173 (j := 8) tn_8 (by decide) dX12_draw_27 ?_
  refine V_bipush C dX12_draw_28 kc_b_8 ?_
  refine V_iushr C dX12_draw_30 ?_
  exact V_iret C X dX12_draw_31 ⟨ri_1 h, ri_2 h⟩
theorem c_X12_draw {ε : eT} {S : St} {res : (Int32 × St)} (h : f_X12_draw S = some res) : CI ε yX12_draw cX12_draw 1 (some .int) 1 [.ref (eA ε 172)] S (some (.int res.1)) res.2 := CI_of (by decide) (Nat.le_of_ble_eq_true rfl) rfl (fun κ C X => v_X12_draw_e C X h)
def f_X12_feed_39 (N : Nat) : Nat → St → Int64 → Int32 → Int32 → Option (Int32 × St)
  | 0, _, _, _, _ => none
  | n + 1, S, v1, v3, v4 =>
    (if v3 ≤ v4 then
     some ((S.1 173 6), S)
     else
     (if inb ((432 : Int32) + (S.1 173 6)) 516 = true then
     f_X12_feed_39 N n (pt (pt S 173 ((432 : Int32) + (S.1 173 6)).toNatClampNeg ((((v1 >>> (((8 : Int32) * v4).toInt64 &&& 63)) &&& (255 : Int64))).toInt32)) 173 6 (((pt S 173 ((432 : Int32) + (S.1 173 6)).toNatClampNeg ((((v1 >>> (((8 : Int32) * v4).toInt64 &&& 63)) &&& (255 : Int64))).toInt32)).1 173 6) + (1 : Int32))) v1 v3 (v4 + 1)
     else none))
set_option maxRecDepth 20000 in
theorem v_X12_feed_39 {ε : eT} {κ : kT} {N : Nat} (C : Act ε κ cX12_feed 5 RX12 2) {res : (Int32 × St)} (X : RI ε κ (some .int) (some (.int res.1)) res.2) : ∀ (n : Nat) (S : St) (v1 : Int64) (v3 : Int32) (v4 : Int32) (h : f_X12_feed_39 N n S v1 v3 v4 = some res), V ε κ 5 39 [(0, .ref (eA ε 172)), (1, .long v1), (3, .int v3), (4, .int v4)] [] (wsOf ε S) 0 0 := by
  intro n
  induction n with
  | zero => intro S v1 v3 v4 h; cases h
  | succ n ih =>
    intro S v1 v3 v4 h
    rw [f_X12_feed_39] at h
    refine V_iload C 3 dX12_feed_39 rfl ?_
    refine V_iload_n C 2 dX12_feed_41 rfl rfl ?_
    refine V_icmp_ge C dX12_feed_42 rfl (fun c1 => ?_) (fun c1 => ?_)
    · replace h := ifp c1 h
      refine V_aload_n C 0 dX12_feed_90 rfl rfl ?_
      refine G_X12_s (q := 172) C sk_172 q_FL_X12_7 dX12_feed_91 ?_
      refine V_bipush C dX12_feed_94 kc_b_6 ?_
      refine W_ialdc (q := 173) C sk_173 (j := 6) tn_6 (by decide) dX12_feed_96 ?_
      exact V_iret C X dX12_feed_97 ⟨ri_1 h, ri_2 h⟩
    · replace h := ifn c1 h
      refine V_aload_n C 0 dX12_feed_45 rfl rfl ?_
      refine G_X12_s (q := 172) C sk_172 q_FL_X12_7 dX12_feed_46 ?_
      refine V_sipush C dX12_feed_49 kc_s_432 ?_
      refine V_aload_n C 0 dX12_feed_52 rfl rfl ?_
      refine G_X12_s (q := 172) C sk_172 q_FL_X12_7 dX12_feed_53 ?_
      refine V_bipush C dX12_feed_56 kc_b_6 ?_
      refine W_ialdc (q := 173) C sk_173 (j := 6) tn_6 (by decide) dX12_feed_58 ?_
      refine V_iadd C dX12_feed_59 ?_
      refine V_lload_n C 1 dX12_feed_60 rfl rfl ?_
      refine V_bipush C dX12_feed_61 kc_b_8 ?_
      refine V_iload C 3 dX12_feed_63 rfl ?_
      refine V_imul C dX12_feed_65 ?_
      refine V_lshr C dX12_feed_66 ?_
      refine V_ldc2 C q_KL_X12_104 dX12_feed_67 ?_
      refine V_land C dX12_feed_70 ?_
      refine V_l2i C dX12_feed_71 ?_
      obtain ⟨g2, h⟩ := gdt h
      refine W_iast (q := 173) C sk_173 g2 dX12_feed_72 ?_
      refine V_aload_n C 0 dX12_feed_73 rfl rfl ?_
      refine G_X12_s (q := 172) C sk_172 q_FL_X12_7 dX12_feed_74 ?_
      refine V_bipush C dX12_feed_77 kc_b_6 ?_
      refine V_dup2 C dX12_feed_79 rfl rfl ?_
      refine W_ialdc (q := 173) C sk_173 (j := 6) tn_6 (by decide) dX12_feed_80 ?_
      refine V_iconst C dX12_feed_81 kc_i_1 ?_
      refine V_iadd C dX12_feed_82 ?_
      refine W_iastc (q := 173) C sk_173 (j := 6) tn_6 (by decide) dX12_feed_83 ?_
      refine V_iinc (v := (v4 + 1)) (lv' := [(4, .int (v4 + 1)), (0, .ref (eA ε 172)), (1, .long v1), (3, .int v3)]) C 3 dX12_feed_84 rfl (congrArg _ kc_i_1) (by decide) rfl ?_
      refine V_goto C dX12_feed_87 rfl ?_
      refine V_sub C [1, 2, 3, 0] rfl ?_
      exact ih _ _ _ _ h
def f_X12_feed (N : Nat) (S : St) (v1 : Int64) (v3 : Int32) : Option (Int32 × St) :=
 bnd (f_X12_in S v3 (1 : Int32) (8 : Int32)) (fun a2 =>
 (if a2 = 0 then
 bnd2 (f_X12_error S (1 : Int32)) (fun a9 S10 =>
 some (a9, S10))
 else
 (if ((S.1 173 6) + v3) ≤ (60 : Int32) then
 f_X12_feed_39 N N S v1 v3 (0 : Int32)
 else
 bnd2 (f_X12_error S (4 : Int32)) (fun a6 S7 =>
 some (a6, S7)))))
set_option maxRecDepth 20000 in
theorem v_X12_feed_e {ε : eT} {κ : kT} {N : Nat} (C : Act ε κ cX12_feed 5 RX12 2) {S : St} {res : (Int32 × St)} (X : RI ε κ (some .int) (some (.int res.1)) res.2) {v1 : Int64} {v3 : Int32} (h : f_X12_feed N S v1 v3 = some res) : V ε κ 5 0 [(0, .ref (eA ε 172)), (1, .long v1), (3, .int v3)] [] (wsOf ε S) 0 0 := by
  unfold f_X12_feed at h
  refine V_iload_n C 2 dX12_feed_0 rfl rfl ?_
  refine V_iconst C dX12_feed_1 kc_i_1 ?_
  refine V_bipush C dX12_feed_2 kc_b_8 ?_
  obtain ⟨a2, e1, h⟩ := bnd_s h
  refine W_callsi C cf_X12_in (c_X12_in e1) q_ML_X12_47 dX12_feed_4 (by decide) rfl rfl (Nat.le_of_ble_eq_true rfl) ?_
  refine V_if_ne C dX12_feed_7 rfl (fun c3 => ?_) (fun c3 => ?_)
  · replace h := ifn c3 h
    refine V_aload_n C 0 dX12_feed_16 rfl rfl ?_
    refine G_X12_s (q := 172) C sk_172 q_FL_X12_7 dX12_feed_17 ?_
    refine V_bipush C dX12_feed_20 kc_b_6 ?_
    refine W_ialdc (q := 173) C sk_173 (j := 6) tn_6 (by decide) dX12_feed_22 ?_
    refine V_iload_n C 2 dX12_feed_23 rfl rfl ?_
    refine V_iadd C dX12_feed_24 ?_
    refine V_bipush C dX12_feed_25 kc_b_60 ?_
    refine V_icmp_le C dX12_feed_27 rfl (fun c4 => ?_) (fun c4 => ?_)
    · replace h := ifp c4 h
      refine V_iconst C dX12_feed_36 kc_i_0 ?_
      refine V_istore (lv' := [(4, .int (0 : Int32)), (0, .ref (eA ε 172)), (1, .long v1), (3, .int v3)]) C dX12_feed_37 (by decide) rfl ?_
      refine V_sub C [1, 2, 3, 0] rfl ?_
      exact v_X12_feed_39 C X N _ _ _ _ h
    · replace h := ifn c4 h
      refine V_aload_n C 0 dX12_feed_30 rfl rfl ?_
      refine V_iconst C dX12_feed_31 kc_i_4 ?_
      obtain ⟨a6, S7, e5, h⟩ := bnd2_s h
      refine W_callvi C cf_X12_error (c_X12_error e5) q_ML_X12_60 (ws_X12 sk_172) rfl dX12_feed_32 (by decide) rfl rfl (Nat.le_of_ble_eq_true rfl) ?_
      exact V_iret C X dX12_feed_35 ⟨ri_1 h, ri_2 h⟩
  · replace h := ifp c3 h
    refine V_aload_n C 0 dX12_feed_10 rfl rfl ?_
    refine V_iconst C dX12_feed_11 kc_i_1 ?_
    obtain ⟨a9, S10, e8, h⟩ := bnd2_s h
    refine W_callvi C cf_X12_error (c_X12_error e8) q_ML_X12_60 (ws_X12 sk_172) rfl dX12_feed_12 (by decide) rfl rfl (Nat.le_of_ble_eq_true rfl) ?_
    exact V_iret C X dX12_feed_15 ⟨ri_1 h, ri_2 h⟩
theorem c_X12_feed {ε : eT} {N : Nat} {S : St} {v1 : Int64} {v3 : Int32} {res : (Int32 × St)} (h : f_X12_feed N S v1 v3 = some res) : CI ε yX12_feed cX12_feed 5 (some .int) 2 [.ref (eA ε 172), .long v1, .int v3] S (some (.int res.1)) res.2 := CI_of (by decide) (Nat.le_of_ble_eq_true rfl) rfl (fun κ C X => v_X12_feed_e C X h)
def f_X12_firm_17 (N : Nat) (S : St) : Option (Int32 × St) :=
 bnd2 (f_X12_error S (1 : Int32)) (fun a2 S3 =>
 some (a2, S3))
set_option maxRecDepth 20000 in
theorem v_X12_firm_17 {ε : eT} {κ : kT} {N : Nat} (C : Act ε κ cX12_firm 10 RX12 3) {S : St} {res : (Int32 × St)} (X : RI ε κ (some .int) (some (.int res.1)) res.2) (h : f_X12_firm_17 N S = some res) : V ε κ 10 17 [(0, .ref (eA ε 172))] [] (wsOf ε S) 0 0 := by
  unfold f_X12_firm_17 at h
  refine V_aload_n C 0 dX12_firm_17 rfl rfl ?_
  refine V_iconst C dX12_firm_18 kc_i_1 ?_
  obtain ⟨a2, S3, e1, h⟩ := bnd2_s h
  refine W_callvi C cf_X12_error (c_X12_error e1) q_ML_X12_60 (ws_X12 sk_172) rfl dX12_firm_19 (by decide) rfl rfl (Nat.le_of_ble_eq_true rfl) ?_
  exact V_iret C X dX12_firm_22 ⟨ri_1 h, ri_2 h⟩
def f_X12_firm_175 (N : Nat) (K42 : St → Int32 → Int32 → Int32 → Int32 → Int32 → Int32 → Int32 → Option (Int32 × St)) (S : St) (v1 : Int32) (v2 : Int32) (v3 : Int32) (v4 : Int32) (v5 : Int32) (v7 : Int32) (s0 : Int32) (s1 : Int32) : Option (Int32 × St) :=
 K42 S v1 v2 v3 v4 v5 (s1 ||| s0) (v7 + 1)
set_option maxRecDepth 20000 in
theorem v_X12_firm_175 {ε : eT} {κ : kT} {N : Nat} (C : Act ε κ cX12_firm 10 RX12 3) {S : St} {res : (Int32 × St)} (X : RI ε κ (some .int) (some (.int res.1)) res.2) {K42 : St → Int32 → Int32 → Int32 → Int32 → Int32 → Int32 → Int32 → Option (Int32 × St)} (hK42 : ∀ (S : St) (v1 : Int32) (v2 : Int32) (v3 : Int32) (v4 : Int32) (v5 : Int32) (v6 : Int32) (v7 : Int32), K42 S v1 v2 v3 v4 v5 v6 v7 = some res → V ε κ 10 42 [(0, .ref (eA ε 172)), (1, .int v1), (2, .int v2), (3, .int v3), (4, .int v4), (5, .int v5), (6, .int v6), (7, .int v7)] [] (wsOf ε S) 0 0) {v1 : Int32} {v2 : Int32} {v3 : Int32} {v4 : Int32} {v5 : Int32} {v7 : Int32} {s0 : Int32} {s1 : Int32} (h : f_X12_firm_175 N K42 S v1 v2 v3 v4 v5 v7 s0 s1 = some res) : V ε κ 10 175 [(0, .ref (eA ε 172)), (1, .int v1), (2, .int v2), (3, .int v3), (4, .int v4), (5, .int v5), (7, .int v7)] [.int s0, .int s1] (wsOf ε S) 0 0 := by
  unfold f_X12_firm_175 at h
  refine V_ior C dX12_firm_175 ?_
  refine V_istore (lv' := [(6, .int (s1 ||| s0)), (0, .ref (eA ε 172)), (1, .int v1), (2, .int v2), (3, .int v3), (4, .int v4), (5, .int v5), (7, .int v7)]) C dX12_firm_176 (by decide) rfl ?_
  refine V_iinc (v := (v7 + 1)) (lv' := [(7, .int (v7 + 1)), (6, .int (s1 ||| s0)), (0, .ref (eA ε 172)), (1, .int v1), (2, .int v2), (3, .int v3), (4, .int v4), (5, .int v5)]) C 7 dX12_firm_178 rfl (congrArg _ kc_i_1) (by decide) rfl ?_
  refine V_goto C dX12_firm_181 rfl ?_
  refine V_sub C [2, 3, 4, 5, 6, 7, 1, 0] rfl ?_
  exact hK42 _ _ _ _ _ _ _ _ h
def f_X12_firm_157 (N : Nat) (K42 : St → Int32 → Int32 → Int32 → Int32 → Int32 → Int32 → Int32 → Option (Int32 × St)) (S : St) (v1 : Int32) (v2 : Int32) (v3 : Int32) (v4 : Int32) (v6 : Int32) (v7 : Int32) (v9 : Int32) (s0 : Int32) (s1 : Int32) : Option (Int32 × St) :=
 (if v9 = 0 then
 f_X12_firm_175 N K42 S v1 v2 v3 v4 (s1 + s0) v7 (0 : Int32) v6
 else
 f_X12_firm_175 N K42 S v1 v2 v3 v4 (s1 + s0) v7 ((1 : Int32) <<< (v7 &&& 31)) v6)
set_option maxRecDepth 20000 in
theorem v_X12_firm_157 {ε : eT} {κ : kT} {N : Nat} (C : Act ε κ cX12_firm 10 RX12 3) {S : St} {res : (Int32 × St)} (X : RI ε κ (some .int) (some (.int res.1)) res.2) {K42 : St → Int32 → Int32 → Int32 → Int32 → Int32 → Int32 → Int32 → Option (Int32 × St)} (hK42 : ∀ (S : St) (v1 : Int32) (v2 : Int32) (v3 : Int32) (v4 : Int32) (v5 : Int32) (v6 : Int32) (v7 : Int32), K42 S v1 v2 v3 v4 v5 v6 v7 = some res → V ε κ 10 42 [(0, .ref (eA ε 172)), (1, .int v1), (2, .int v2), (3, .int v3), (4, .int v4), (5, .int v5), (6, .int v6), (7, .int v7)] [] (wsOf ε S) 0 0) {v1 : Int32} {v2 : Int32} {v3 : Int32} {v4 : Int32} {v6 : Int32} {v7 : Int32} {v9 : Int32} {s0 : Int32} {s1 : Int32} (h : f_X12_firm_157 N K42 S v1 v2 v3 v4 v6 v7 v9 s0 s1 = some res) : V ε κ 10 157 [(0, .ref (eA ε 172)), (1, .int v1), (2, .int v2), (3, .int v3), (4, .int v4), (6, .int v6), (7, .int v7), (9, .int v9)] [.int s0, .int s1] (wsOf ε S) 0 0 := by
  unfold f_X12_firm_157 at h
  refine V_iadd C dX12_firm_157 ?_
  refine V_istore (lv' := [(5, .int (s1 + s0)), (0, .ref (eA ε 172)), (1, .int v1), (2, .int v2), (3, .int v3), (4, .int v4), (6, .int v6), (7, .int v7), (9, .int v9)]) C dX12_firm_158 (by decide) rfl ?_
  refine V_iload C 6 dX12_firm_160 rfl ?_
  refine V_iload C 8 dX12_firm_162 rfl ?_
  refine V_if_eq C dX12_firm_164 rfl (fun c1 => ?_) (fun c1 => ?_)
  · replace h := ifp c1 h
    refine V_iconst C dX12_firm_174 kc_i_0 ?_
    refine V_sub C [1, 2, 3, 4, 5, 0, 7] rfl ?_
    exact v_X12_firm_175 C X hK42 h
  · replace h := ifn c1 h
    refine V_iconst C dX12_firm_167 kc_i_1 ?_
    refine V_iload C 7 dX12_firm_168 rfl ?_
    refine V_ishl C dX12_firm_170 ?_
    refine V_goto C dX12_firm_171 rfl ?_
    refine V_sub C [1, 2, 3, 4, 5, 0, 7] rfl ?_
    exact v_X12_firm_175 C X hK42 h
def f_X12_firm_133 (N : Nat) (K42 : St → Int32 → Int32 → Int32 → Int32 → Int32 → Int32 → Int32 → Option (Int32 × St)) (S : St) (v1 : Int32) (v2 : Int32) (v3 : Int32) (v5 : Int32) (v6 : Int32) (v7 : Int32) (v8 : Int32) (v9 : Int32) (s0 : Int32) (s1 : Int32) : Option (Int32 × St) :=
 (if v9 = 0 then
 f_X12_firm_157 N K42 S v1 v2 v3 (s1 + s0) v6 v7 v9 (0 : Int32) v5
 else
 bnd (f_X12_valueTo S v1 v7) (fun a3 =>
 f_X12_firm_157 N K42 S v1 v2 v3 (s1 + s0) v6 v7 v9 (a3 - v8) v5))
set_option maxRecDepth 20000 in
theorem v_X12_firm_133 {ε : eT} {κ : kT} {N : Nat} (C : Act ε κ cX12_firm 10 RX12 3) {S : St} {res : (Int32 × St)} (X : RI ε κ (some .int) (some (.int res.1)) res.2) {K42 : St → Int32 → Int32 → Int32 → Int32 → Int32 → Int32 → Int32 → Option (Int32 × St)} (hK42 : ∀ (S : St) (v1 : Int32) (v2 : Int32) (v3 : Int32) (v4 : Int32) (v5 : Int32) (v6 : Int32) (v7 : Int32), K42 S v1 v2 v3 v4 v5 v6 v7 = some res → V ε κ 10 42 [(0, .ref (eA ε 172)), (1, .int v1), (2, .int v2), (3, .int v3), (4, .int v4), (5, .int v5), (6, .int v6), (7, .int v7)] [] (wsOf ε S) 0 0) {v1 : Int32} {v2 : Int32} {v3 : Int32} {v5 : Int32} {v6 : Int32} {v7 : Int32} {v8 : Int32} {v9 : Int32} {s0 : Int32} {s1 : Int32} (h : f_X12_firm_133 N K42 S v1 v2 v3 v5 v6 v7 v8 v9 s0 s1 = some res) : V ε κ 10 133 [(0, .ref (eA ε 172)), (1, .int v1), (2, .int v2), (3, .int v3), (5, .int v5), (6, .int v6), (7, .int v7), (8, .int v8), (9, .int v9)] [.int s0, .int s1] (wsOf ε S) 0 0 := by
  unfold f_X12_firm_133 at h
  refine V_iadd C dX12_firm_133 ?_
  refine V_istore (lv' := [(4, .int (s1 + s0)), (0, .ref (eA ε 172)), (1, .int v1), (2, .int v2), (3, .int v3), (5, .int v5), (6, .int v6), (7, .int v7), (8, .int v8), (9, .int v9)]) C dX12_firm_134 (by decide) rfl ?_
  refine V_iload C 5 dX12_firm_136 rfl ?_
  refine V_iload C 9 dX12_firm_138 rfl ?_
  refine V_if_eq C dX12_firm_140 rfl (fun c1 => ?_) (fun c1 => ?_)
  · replace h := ifp c1 h
    refine V_iconst C dX12_firm_156 kc_i_0 ?_
    refine V_sub C [1, 2, 3, 4, 0, 6, 7, 9] rfl ?_
    exact v_X12_firm_157 C X hK42 h
  · replace h := ifn c1 h
    refine V_aload_n C 1 dX12_firm_143 rfl rfl ?_
    refine V_iload_n C 2 dX12_firm_144 rfl rfl ?_
    refine V_iload C 7 dX12_firm_145 rfl ?_
    obtain ⟨a3, e2, h⟩ := bnd_s h
    refine W_callvi C cf_X12_valueTo (c_X12_valueTo e2) q_ML_X12_73 (ws_X12 sk_172) rfl dX12_firm_147 (by decide) rfl rfl (Nat.le_of_ble_eq_true rfl) ?_
    refine V_iload C 8 dX12_firm_150 rfl ?_
    refine V_isub C dX12_firm_152 ?_
    refine V_goto C dX12_firm_153 rfl ?_
    refine V_sub C [1, 2, 3, 4, 0, 6, 7, 9] rfl ?_
    exact v_X12_firm_157 C X hK42 h
def f_X12_firm_119 (N : Nat) (K42 : St → Int32 → Int32 → Int32 → Int32 → Int32 → Int32 → Int32 → Option (Int32 × St)) (S : St) (v1 : Int32) (v2 : Int32) (v4 : Int32) (v5 : Int32) (v6 : Int32) (v7 : Int32) (v8 : Int32) (v9 : Int32) (s0 : Int32) (s1 : Int32) : Option (Int32 × St) :=
 (if v9 = 0 then
 f_X12_firm_133 N K42 S v1 v2 (s1 - s0) v5 v6 v7 v8 v9 (0 : Int32) v4
 else
 f_X12_firm_133 N K42 S v1 v2 (s1 - s0) v5 v6 v7 v8 v9 (1 : Int32) v4)
set_option maxRecDepth 20000 in
theorem v_X12_firm_119 {ε : eT} {κ : kT} {N : Nat} (C : Act ε κ cX12_firm 10 RX12 3) {S : St} {res : (Int32 × St)} (X : RI ε κ (some .int) (some (.int res.1)) res.2) {K42 : St → Int32 → Int32 → Int32 → Int32 → Int32 → Int32 → Int32 → Option (Int32 × St)} (hK42 : ∀ (S : St) (v1 : Int32) (v2 : Int32) (v3 : Int32) (v4 : Int32) (v5 : Int32) (v6 : Int32) (v7 : Int32), K42 S v1 v2 v3 v4 v5 v6 v7 = some res → V ε κ 10 42 [(0, .ref (eA ε 172)), (1, .int v1), (2, .int v2), (3, .int v3), (4, .int v4), (5, .int v5), (6, .int v6), (7, .int v7)] [] (wsOf ε S) 0 0) {v1 : Int32} {v2 : Int32} {v4 : Int32} {v5 : Int32} {v6 : Int32} {v7 : Int32} {v8 : Int32} {v9 : Int32} {s0 : Int32} {s1 : Int32} (h : f_X12_firm_119 N K42 S v1 v2 v4 v5 v6 v7 v8 v9 s0 s1 = some res) : V ε κ 10 119 [(0, .ref (eA ε 172)), (1, .int v1), (2, .int v2), (4, .int v4), (5, .int v5), (6, .int v6), (7, .int v7), (8, .int v8), (9, .int v9)] [.int s0, .int s1] (wsOf ε S) 0 0 := by
  unfold f_X12_firm_119 at h
  refine V_isub C dX12_firm_119 ?_
  refine V_istore_n (lv' := [(3, .int (s1 - s0)), (0, .ref (eA ε 172)), (1, .int v1), (2, .int v2), (4, .int v4), (5, .int v5), (6, .int v6), (7, .int v7), (8, .int v8), (9, .int v9)]) C dX12_firm_120 rfl (by decide) rfl ?_
  refine V_iload C 4 dX12_firm_121 rfl ?_
  refine V_iload C 9 dX12_firm_123 rfl ?_
  refine V_if_eq C dX12_firm_125 rfl (fun c1 => ?_) (fun c1 => ?_)
  · replace h := ifp c1 h
    refine V_iconst C dX12_firm_132 kc_i_0 ?_
    refine V_sub C [1, 2, 3, 0, 5, 6, 7, 8, 9] rfl ?_
    exact v_X12_firm_133 C X hK42 h
  · replace h := ifn c1 h
    refine V_iconst C dX12_firm_128 kc_i_1 ?_
    refine V_goto C dX12_firm_129 rfl ?_
    refine V_sub C [1, 2, 3, 0, 5, 6, 7, 8, 9] rfl ?_
    exact v_X12_firm_133 C X hK42 h
def f_X12_firm_105 (N : Nat) (K42 : St → Int32 → Int32 → Int32 → Int32 → Int32 → Int32 → Int32 → Option (Int32 × St)) (S : St) (v1 : Int32) (v2 : Int32) (v3 : Int32) (v4 : Int32) (v5 : Int32) (v6 : Int32) (v7 : Int32) (v8 : Int32) (s0 : Int32) : Option (Int32 × St) :=
 (if s0 = 0 then
 f_X12_firm_119 N K42 S v1 v2 v4 v5 v6 v7 v8 s0 (0 : Int32) v3
 else
 f_X12_firm_119 N K42 S v1 v2 v4 v5 v6 v7 v8 s0 v8 v3)
set_option maxRecDepth 20000 in
theorem v_X12_firm_105 {ε : eT} {κ : kT} {N : Nat} (C : Act ε κ cX12_firm 10 RX12 3) {S : St} {res : (Int32 × St)} (X : RI ε κ (some .int) (some (.int res.1)) res.2) {K42 : St → Int32 → Int32 → Int32 → Int32 → Int32 → Int32 → Int32 → Option (Int32 × St)} (hK42 : ∀ (S : St) (v1 : Int32) (v2 : Int32) (v3 : Int32) (v4 : Int32) (v5 : Int32) (v6 : Int32) (v7 : Int32), K42 S v1 v2 v3 v4 v5 v6 v7 = some res → V ε κ 10 42 [(0, .ref (eA ε 172)), (1, .int v1), (2, .int v2), (3, .int v3), (4, .int v4), (5, .int v5), (6, .int v6), (7, .int v7)] [] (wsOf ε S) 0 0) {v1 : Int32} {v2 : Int32} {v3 : Int32} {v4 : Int32} {v5 : Int32} {v6 : Int32} {v7 : Int32} {v8 : Int32} {s0 : Int32} (h : f_X12_firm_105 N K42 S v1 v2 v3 v4 v5 v6 v7 v8 s0 = some res) : V ε κ 10 105 [(0, .ref (eA ε 172)), (1, .int v1), (2, .int v2), (3, .int v3), (4, .int v4), (5, .int v5), (6, .int v6), (7, .int v7), (8, .int v8)] [.int s0] (wsOf ε S) 0 0 := by
  unfold f_X12_firm_105 at h
  refine V_istore (lv' := [(9, .int s0), (0, .ref (eA ε 172)), (1, .int v1), (2, .int v2), (3, .int v3), (4, .int v4), (5, .int v5), (6, .int v6), (7, .int v7), (8, .int v8)]) C dX12_firm_105 (by decide) rfl ?_
  refine V_iload_n C 4 dX12_firm_107 rfl rfl ?_
  refine V_iload C 0 dX12_firm_108 rfl ?_
  refine V_if_eq C dX12_firm_110 rfl (fun c1 => ?_) (fun c1 => ?_)
  · replace h := ifp c1 h
    refine V_iconst C dX12_firm_118 kc_i_0 ?_
    refine V_sub C [1, 2, 3, 5, 6, 7, 8, 9, 0] rfl ?_
    exact v_X12_firm_119 C X hK42 h
  · replace h := ifn c1 h
    refine V_iload C 9 dX12_firm_113 rfl ?_
    refine V_goto C dX12_firm_115 rfl ?_
    refine V_sub C [1, 2, 3, 5, 6, 7, 8, 9, 0] rfl ?_
    exact v_X12_firm_119 C X hK42 h
def f_X12_firm_104 (N : Nat) (K42 : St → Int32 → Int32 → Int32 → Int32 → Int32 → Int32 → Int32 → Option (Int32 × St)) (S : St) (v1 : Int32) (v2 : Int32) (v3 : Int32) (v4 : Int32) (v5 : Int32) (v6 : Int32) (v7 : Int32) (v8 : Int32) : Option (Int32 × St) :=
 f_X12_firm_105 N K42 S v1 v2 v3 v4 v5 v6 v7 v8 (0 : Int32)
set_option maxRecDepth 20000 in
theorem v_X12_firm_104 {ε : eT} {κ : kT} {N : Nat} (C : Act ε κ cX12_firm 10 RX12 3) {S : St} {res : (Int32 × St)} (X : RI ε κ (some .int) (some (.int res.1)) res.2) {K42 : St → Int32 → Int32 → Int32 → Int32 → Int32 → Int32 → Int32 → Option (Int32 × St)} (hK42 : ∀ (S : St) (v1 : Int32) (v2 : Int32) (v3 : Int32) (v4 : Int32) (v5 : Int32) (v6 : Int32) (v7 : Int32), K42 S v1 v2 v3 v4 v5 v6 v7 = some res → V ε κ 10 42 [(0, .ref (eA ε 172)), (1, .int v1), (2, .int v2), (3, .int v3), (4, .int v4), (5, .int v5), (6, .int v6), (7, .int v7)] [] (wsOf ε S) 0 0) {v1 : Int32} {v2 : Int32} {v3 : Int32} {v4 : Int32} {v5 : Int32} {v6 : Int32} {v7 : Int32} {v8 : Int32} (h : f_X12_firm_104 N K42 S v1 v2 v3 v4 v5 v6 v7 v8 = some res) : V ε κ 10 104 [(0, .ref (eA ε 172)), (1, .int v1), (2, .int v2), (3, .int v3), (4, .int v4), (5, .int v5), (6, .int v6), (7, .int v7), (8, .int v8)] [] (wsOf ε S) 0 0 := by
  unfold f_X12_firm_104 at h
  refine V_iconst C dX12_firm_104 kc_i_0 ?_
  exact v_X12_firm_105 C X hK42 h
def f_X12_firm_42 (N : Nat) : Nat → St → Int32 → Int32 → Int32 → Int32 → Int32 → Int32 → Int32 → Option (Int32 × St)
  | 0, _, _, _, _, _, _, _, _ => none
  | n + 1, S, v1, v2, v3, v4, v5, v6, v7 =>
    (if (S.1 173 1) ≤ v7 then
     (if v2 = 0 then
     some (v4, S)
     else
     (if v2 = (1 : Int32) then
     some (v5, S)
     else
     some (v6, S)))
     else
     bnd (f_X12_its S v7 (1 : Int32)) (fun a5 =>
     bnd (f_X12_owner S v7) (fun a7 =>
     (if a7 = v1 then
     f_X12_firm_104 N (f_X12_firm_42 N n) S v1 v2 v3 v4 v5 v6 v7 a5
     else
     bnd (f_X12_its S v7 (3 : Int32)) (fun a10 =>
     (if a10 = 0 then
     bnd (f_X12_valueTo S v1 v7) (fun a13 =>
     (if a13 ≤ a5 then
     f_X12_firm_104 N (f_X12_firm_42 N n) S v1 v2 v3 v4 v5 v6 v7 a5
     else
     (if v3 < a5 then
     f_X12_firm_104 N (f_X12_firm_42 N n) S v1 v2 v3 v4 v5 v6 v7 a5
     else
     f_X12_firm_105 N (f_X12_firm_42 N n) S v1 v2 v3 v4 v5 v6 v7 a5 (1 : Int32))))
     else
     f_X12_firm_104 N (f_X12_firm_42 N n) S v1 v2 v3 v4 v5 v6 v7 a5))))))
set_option maxRecDepth 20000 in
theorem v_X12_firm_42 {ε : eT} {κ : kT} {N : Nat} (C : Act ε κ cX12_firm 10 RX12 3) {res : (Int32 × St)} (X : RI ε κ (some .int) (some (.int res.1)) res.2) : ∀ (n : Nat) (S : St) (v1 : Int32) (v2 : Int32) (v3 : Int32) (v4 : Int32) (v5 : Int32) (v6 : Int32) (v7 : Int32) (h : f_X12_firm_42 N n S v1 v2 v3 v4 v5 v6 v7 = some res), V ε κ 10 42 [(0, .ref (eA ε 172)), (1, .int v1), (2, .int v2), (3, .int v3), (4, .int v4), (5, .int v5), (6, .int v6), (7, .int v7)] [] (wsOf ε S) 0 0 := by
  intro n
  induction n with
  | zero => intro S v1 v2 v3 v4 v5 v6 v7 h; cases h
  | succ n ih =>
    intro S v1 v2 v3 v4 v5 v6 v7 h
    rw [f_X12_firm_42] at h
    refine V_iload C 7 dX12_firm_42 rfl ?_
    refine V_aload_n C 0 dX12_firm_44 rfl rfl ?_
    refine G_X12_s (q := 172) C sk_172 q_FL_X12_7 dX12_firm_45 ?_
    refine V_iconst C dX12_firm_48 kc_i_1 ?_
    refine W_ialdc (q := 173) C sk_173 (j := 1) tn_1 (by decide) dX12_firm_49 ?_
    refine V_icmp_ge C dX12_firm_50 rfl (fun c1 => ?_) (fun c1 => ?_)
    · replace h := ifp c1 h
      refine V_iload_n C 2 dX12_firm_184 rfl rfl ?_
      refine V_if_ne C dX12_firm_185 rfl (fun c2 => ?_) (fun c2 => ?_)
      · replace h := ifn c2 h
        refine V_iload_n C 2 dX12_firm_193 rfl rfl ?_
        refine V_iconst C dX12_firm_194 kc_i_1 ?_
        refine V_icmp_ne C dX12_firm_195 rfl (fun c3 => ?_) (fun c3 => ?_)
        · replace h := ifn c3 h
          refine V_iload C 6 dX12_firm_203 rfl ?_
          exact V_iret C X dX12_firm_205 ⟨ri_1 h, ri_2 h⟩
        · replace h := ifp c3 h
          refine V_iload C 5 dX12_firm_198 rfl ?_
          refine V_goto C dX12_firm_200 rfl ?_
          exact V_iret C X dX12_firm_205 ⟨ri_1 h, ri_2 h⟩
      · replace h := ifp c2 h
        refine V_iload C 4 dX12_firm_188 rfl ?_
        refine V_goto C dX12_firm_190 rfl ?_
        exact V_iret C X dX12_firm_205 ⟨ri_1 h, ri_2 h⟩
    · replace h := ifn c1 h
      refine V_aload_n C 0 dX12_firm_53 rfl rfl ?_
      refine V_iload C 7 dX12_firm_54 rfl ?_
      refine V_iconst C dX12_firm_56 kc_i_1 ?_
      obtain ⟨a5, e4, h⟩ := bnd_s h
      refine W_callvi C cf_X12_its (c_X12_its e4) q_ML_X12_51 (ws_X12 sk_172) rfl dX12_firm_57 (by decide) rfl rfl (Nat.le_of_ble_eq_true rfl) ?_
      refine V_istore (lv' := [(8, .int a5), (0, .ref (eA ε 172)), (1, .int v1), (2, .int v2), (3, .int v3), (4, .int v4), (5, .int v5), (6, .int v6), (7, .int v7)]) C dX12_firm_60 (by decide) rfl ?_
      refine V_aload_n C 1 dX12_firm_62 rfl rfl ?_
      refine V_iload C 8 dX12_firm_63 rfl ?_
      obtain ⟨a7, e6, h⟩ := bnd_s h
      refine W_callvi C cf_X12_owner (c_X12_owner e6) q_ML_X12_67 (ws_X12 sk_172) rfl dX12_firm_65 (by decide) rfl rfl (Nat.le_of_ble_eq_true rfl) ?_
      refine V_iload_n C 2 dX12_firm_68 rfl rfl ?_
      refine V_icmp_eq C dX12_firm_69 rfl (fun c8 => ?_) (fun c8 => ?_)
      · replace h := ifp c8 h
        refine V_sub C [1, 2, 3, 4, 5, 6, 7, 8, 0] rfl ?_
        exact v_X12_firm_104 C X ih h
      · replace h := ifn c8 h
        refine V_aload_n C 1 dX12_firm_72 rfl rfl ?_
        refine V_iload C 8 dX12_firm_73 rfl ?_
        refine V_iconst C dX12_firm_75 kc_i_3 ?_
        obtain ⟨a10, e9, h⟩ := bnd_s h
        refine W_callvi C cf_X12_its (c_X12_its e9) q_ML_X12_51 (ws_X12 sk_172) rfl dX12_firm_76 (by decide) rfl rfl (Nat.le_of_ble_eq_true rfl) ?_
        refine V_if_ne C dX12_firm_79 rfl (fun c11 => ?_) (fun c11 => ?_)
        · replace h := ifn c11 h
          refine V_sub C [1, 2, 3, 4, 5, 6, 7, 8, 0] rfl ?_
          exact v_X12_firm_104 C X ih h
        · replace h := ifp c11 h
          refine V_aload_n C 1 dX12_firm_82 rfl rfl ?_
          refine V_iload_n C 2 dX12_firm_83 rfl rfl ?_
          refine V_iload C 8 dX12_firm_84 rfl ?_
          obtain ⟨a13, e12, h⟩ := bnd_s h
          refine W_callvi C cf_X12_valueTo (c_X12_valueTo e12) q_ML_X12_73 (ws_X12 sk_172) rfl dX12_firm_86 (by decide) rfl rfl (Nat.le_of_ble_eq_true rfl) ?_
          refine V_iload C 0 dX12_firm_89 rfl ?_
          refine V_icmp_le C dX12_firm_91 rfl (fun c14 => ?_) (fun c14 => ?_)
          · replace h := ifp c14 h
            refine V_sub C [1, 2, 3, 4, 5, 6, 7, 8, 0] rfl ?_
            exact v_X12_firm_104 C X ih h
          · replace h := ifn c14 h
            refine V_iload_n C 4 dX12_firm_94 rfl rfl ?_
            refine V_iload C 0 dX12_firm_95 rfl ?_
            refine V_icmp_lt C dX12_firm_97 rfl (fun c15 => ?_) (fun c15 => ?_)
            · replace h := ifp c15 h
              refine V_sub C [1, 2, 3, 4, 5, 6, 7, 8, 0] rfl ?_
              exact v_X12_firm_104 C X ih h
            · replace h := ifn c15 h
              refine V_iconst C dX12_firm_100 kc_i_1 ?_
              refine V_goto C dX12_firm_101 rfl ?_
              refine V_sub C [1, 2, 3, 4, 5, 6, 7, 8, 0] rfl ?_
              exact v_X12_firm_105 C X ih h
def f_X12_firm (N : Nat) (S : St) (v1 : Int32) (v2 : Int32) : Option (Int32 × St) :=
 bnd (f_X12_isPerson S v1) (fun a2 =>
 (if a2 = 0 then
 f_X12_firm_17 N S
 else
 bnd (f_X12_in S v2 (0 : Int32) (2 : Int32)) (fun a5 =>
 (if a5 = 0 then
 f_X12_firm_17 N S
 else
 bnd (f_X12_who S v1 (1 : Int32)) (fun a8 =>
 f_X12_firm_42 N N S v1 v2 a8 (0 : Int32) (0 : Int32) (0 : Int32) (0 : Int32))))))
set_option maxRecDepth 20000 in
theorem v_X12_firm_e {ε : eT} {κ : kT} {N : Nat} (C : Act ε κ cX12_firm 10 RX12 3) {S : St} {res : (Int32 × St)} (X : RI ε κ (some .int) (some (.int res.1)) res.2) {v1 : Int32} {v2 : Int32} (h : f_X12_firm N S v1 v2 = some res) : V ε κ 10 0 [(0, .ref (eA ε 172)), (1, .int v1), (2, .int v2)] [] (wsOf ε S) 0 0 := by
  unfold f_X12_firm at h
  refine V_aload_n C 0 dX12_firm_0 rfl rfl ?_
  refine V_iload_n C 1 dX12_firm_1 rfl rfl ?_
  obtain ⟨a2, e1, h⟩ := bnd_s h
  refine W_callvi C cf_X12_isPerson (c_X12_isPerson e1) q_ML_X12_76 (ws_X12 sk_172) rfl dX12_firm_2 (by decide) rfl rfl (Nat.le_of_ble_eq_true rfl) ?_
  refine V_if_eq C dX12_firm_5 rfl (fun c3 => ?_) (fun c3 => ?_)
  · replace h := ifp c3 h
    refine V_sub C [0] rfl ?_
    exact v_X12_firm_17 C X h
  · replace h := ifn c3 h
    refine V_iload_n C 2 dX12_firm_8 rfl rfl ?_
    refine V_iconst C dX12_firm_9 kc_i_0 ?_
    refine V_iconst C dX12_firm_10 kc_i_2 ?_
    obtain ⟨a5, e4, h⟩ := bnd_s h
    refine W_callsi C cf_X12_in (c_X12_in e4) q_ML_X12_47 dX12_firm_11 (by decide) rfl rfl (Nat.le_of_ble_eq_true rfl) ?_
    refine V_if_ne C dX12_firm_14 rfl (fun c6 => ?_) (fun c6 => ?_)
    · replace h := ifn c6 h
      refine V_aload_n C 0 dX12_firm_23 rfl rfl ?_
      refine V_iload_n C 1 dX12_firm_24 rfl rfl ?_
      refine V_iconst C dX12_firm_25 kc_i_1 ?_
      obtain ⟨a8, e7, h⟩ := bnd_s h
      refine W_callvi C cf_X12_who (c_X12_who e7) q_ML_X12_79 (ws_X12 sk_172) rfl dX12_firm_26 (by decide) rfl rfl (Nat.le_of_ble_eq_true rfl) ?_
      refine V_istore_n (lv' := [(3, .int a8), (0, .ref (eA ε 172)), (1, .int v1), (2, .int v2)]) C dX12_firm_29 rfl (by decide) rfl ?_
      refine V_iconst C dX12_firm_30 kc_i_0 ?_
      refine V_istore (lv' := [(4, .int (0 : Int32)), (3, .int a8), (0, .ref (eA ε 172)), (1, .int v1), (2, .int v2)]) C dX12_firm_31 (by decide) rfl ?_
      refine V_iconst C dX12_firm_33 kc_i_0 ?_
      refine V_istore (lv' := [(5, .int (0 : Int32)), (4, .int (0 : Int32)), (3, .int a8), (0, .ref (eA ε 172)), (1, .int v1), (2, .int v2)]) C dX12_firm_34 (by decide) rfl ?_
      refine V_iconst C dX12_firm_36 kc_i_0 ?_
      refine V_istore (lv' := [(6, .int (0 : Int32)), (5, .int (0 : Int32)), (4, .int (0 : Int32)), (3, .int a8), (0, .ref (eA ε 172)), (1, .int v1), (2, .int v2)]) C dX12_firm_37 (by decide) rfl ?_
      refine V_iconst C dX12_firm_39 kc_i_0 ?_
      refine V_istore (lv' := [(7, .int (0 : Int32)), (6, .int (0 : Int32)), (5, .int (0 : Int32)), (4, .int (0 : Int32)), (3, .int a8), (0, .ref (eA ε 172)), (1, .int v1), (2, .int v2)]) C dX12_firm_40 (by decide) rfl ?_
      refine V_sub C [5, 6, 7, 4, 3, 2, 1, 0] rfl ?_
      exact v_X12_firm_42 C X N _ _ _ _ _ _ _ _ h
    · replace h := ifp c6 h
      refine V_sub C [0] rfl ?_
      exact v_X12_firm_17 C X h
theorem c_X12_firm {ε : eT} {N : Nat} {S : St} {v1 : Int32} {v2 : Int32} {res : (Int32 × St)} (h : f_X12_firm N S v1 v2 = some res) : CI ε yX12_firm cX12_firm 10 (some .int) 3 [.ref (eA ε 172), .int v1, .int v2] S (some (.int res.1)) res.2 := CI_of (by decide) (Nat.le_of_ble_eq_true rfl) rfl (fun κ C X => v_X12_firm_e C X h)
def f_X12_fondest_34 (N : Nat) (S : St) (K4 : Int32 → Int32 → Int32 → Option Int32) (v1 : Int32) (v3 : Int32) (s0 : Int32) : Option Int32 :=
 K4 v1 s0 (v3 + 1)
set_option maxRecDepth 20000 in
theorem v_X12_fondest_34 {ε : eT} {κ : kT} {N : Nat} (C : Act ε κ cX12_fondest 4 RX12 3) {S : St} {res : Int32} (X : RI ε κ (some .int) (some (.int res)) S) {K4 : Int32 → Int32 → Int32 → Option Int32} (hK4 : ∀ (v1 : Int32) (v2 : Int32) (v3 : Int32), K4 v1 v2 v3 = some res → V ε κ 4 4 [(0, .ref (eA ε 172)), (1, .int v1), (2, .int v2), (3, .int v3)] [] (wsOf ε S) 0 0) {v1 : Int32} {v3 : Int32} {s0 : Int32} (h : f_X12_fondest_34 N S K4 v1 v3 s0 = some res) : V ε κ 4 34 [(0, .ref (eA ε 172)), (1, .int v1), (3, .int v3)] [.int s0] (wsOf ε S) 0 0 := by
  unfold f_X12_fondest_34 at h
  refine V_istore_n (lv' := [(2, .int s0), (0, .ref (eA ε 172)), (1, .int v1), (3, .int v3)]) C dX12_fondest_34 rfl (by decide) rfl ?_
  refine V_iinc (v := (v3 + 1)) (lv' := [(3, .int (v3 + 1)), (2, .int s0), (0, .ref (eA ε 172)), (1, .int v1)]) C 3 dX12_fondest_35 rfl (congrArg _ kc_i_1) (by decide) rfl ?_
  refine V_goto C dX12_fondest_38 rfl ?_
  refine V_sub C [2, 3, 1, 0] rfl ?_
  exact hK4 _ _ _ h
def f_X12_fondest_4 (N : Nat) (S : St) : Nat → Int32 → Int32 → Int32 → Option Int32
  | 0, _, _, _ => none
  | n + 1, v1, v2, v3 =>
    (if (S.1 173 0) ≤ v3 then
     some v2
     else
     bnd (f_X12_valueTo S v3 v1) (fun a3 =>
     bnd (f_X12_valueTo S v2 v1) (fun a5 =>
     (if a3 ≤ a5 then
     f_X12_fondest_34 N S (f_X12_fondest_4 N S n) v1 v3 v2
     else
     f_X12_fondest_34 N S (f_X12_fondest_4 N S n) v1 v3 v3))))
set_option maxRecDepth 20000 in
theorem v_X12_fondest_4 {ε : eT} {κ : kT} {N : Nat} (C : Act ε κ cX12_fondest 4 RX12 3) {S : St} {res : Int32} (X : RI ε κ (some .int) (some (.int res)) S) : ∀ (n : Nat) (v1 : Int32) (v2 : Int32) (v3 : Int32) (h : f_X12_fondest_4 N S n v1 v2 v3 = some res), V ε κ 4 4 [(0, .ref (eA ε 172)), (1, .int v1), (2, .int v2), (3, .int v3)] [] (wsOf ε S) 0 0 := by
  intro n
  induction n with
  | zero => intro v1 v2 v3 h; cases h
  | succ n ih =>
    intro v1 v2 v3 h
    rw [f_X12_fondest_4] at h
    refine V_iload_n C 3 dX12_fondest_4 rfl rfl ?_
    refine V_aload_n C 0 dX12_fondest_5 rfl rfl ?_
    refine G_X12_s (q := 172) C sk_172 q_FL_X12_7 dX12_fondest_6 ?_
    refine V_iconst C dX12_fondest_9 kc_i_0 ?_
    refine W_ialdc (q := 173) C sk_173 (j := 0) tn_0 (by decide) dX12_fondest_10 ?_
    refine V_icmp_ge C dX12_fondest_11 rfl (fun c1 => ?_) (fun c1 => ?_)
    · replace h := ifp c1 h
      refine V_iload_n C 2 dX12_fondest_41 rfl rfl ?_
      exact V_iret C X dX12_fondest_42 ⟨rip_1 h, rfl⟩
    · replace h := ifn c1 h
      refine V_aload_n C 0 dX12_fondest_14 rfl rfl ?_
      refine V_iload_n C 3 dX12_fondest_15 rfl rfl ?_
      refine V_iload_n C 1 dX12_fondest_16 rfl rfl ?_
      obtain ⟨a3, e2, h⟩ := bnd_s h
      refine W_callvi C cf_X12_valueTo (c_X12_valueTo e2) q_ML_X12_73 (ws_X12 sk_172) rfl dX12_fondest_17 (by decide) rfl rfl (Nat.le_of_ble_eq_true rfl) ?_
      refine V_aload_n C 0 dX12_fondest_20 rfl rfl ?_
      refine V_iload_n C 2 dX12_fondest_21 rfl rfl ?_
      refine V_iload_n C 1 dX12_fondest_22 rfl rfl ?_
      obtain ⟨a5, e4, h⟩ := bnd_s h
      refine W_callvi C cf_X12_valueTo (c_X12_valueTo e4) q_ML_X12_73 (ws_X12 sk_172) rfl dX12_fondest_23 (by decide) rfl rfl (Nat.le_of_ble_eq_true rfl) ?_
      refine V_icmp_le C dX12_fondest_26 rfl (fun c6 => ?_) (fun c6 => ?_)
      · replace h := ifp c6 h
        refine V_iload_n C 2 dX12_fondest_33 rfl rfl ?_
        refine V_sub C [0, 1, 3] rfl ?_
        exact v_X12_fondest_34 C X ih h
      · replace h := ifn c6 h
        refine V_iload_n C 3 dX12_fondest_29 rfl rfl ?_
        refine V_goto C dX12_fondest_30 rfl ?_
        refine V_sub C [0, 1, 3] rfl ?_
        exact v_X12_fondest_34 C X ih h
def f_X12_fondest (N : Nat) (S : St) (v1 : Int32) : Option Int32 :=
 f_X12_fondest_4 N S N v1 (0 : Int32) (1 : Int32)
set_option maxRecDepth 20000 in
theorem v_X12_fondest_e {ε : eT} {κ : kT} {N : Nat} (C : Act ε κ cX12_fondest 4 RX12 3) {S : St} {res : Int32} (X : RI ε κ (some .int) (some (.int res)) S) {v1 : Int32} (h : f_X12_fondest N S v1 = some res) : V ε κ 4 0 [(0, .ref (eA ε 172)), (1, .int v1)] [] (wsOf ε S) 0 0 := by
  unfold f_X12_fondest at h
  refine V_iconst C dX12_fondest_0 kc_i_0 ?_
  refine V_istore_n (lv' := [(2, .int (0 : Int32)), (0, .ref (eA ε 172)), (1, .int v1)]) C dX12_fondest_1 rfl (by decide) rfl ?_
  refine V_iconst C dX12_fondest_2 kc_i_1 ?_
  refine V_istore_n (lv' := [(3, .int (1 : Int32)), (2, .int (0 : Int32)), (0, .ref (eA ε 172)), (1, .int v1)]) C dX12_fondest_3 rfl (by decide) rfl ?_
  refine V_sub C [2, 3, 1, 0] rfl ?_
  exact v_X12_fondest_4 C X N _ _ _ h
theorem c_X12_fondest {ε : eT} {N : Nat} {S : St} {v1 : Int32} {res : Int32} (h : f_X12_fondest N S v1 = some res) : CI ε yX12_fondest cX12_fondest 4 (some .int) 3 [.ref (eA ε 172), .int v1] S (some (.int res)) S := CI_of (by decide) (Nat.le_of_ble_eq_true rfl) rfl (fun κ C X => v_X12_fondest_e C X h)
def f_X12_isPriced (S : St) (v1 : Int32) (v2 : Int32) (v3 : Int32) : Option Int32 :=
 bnd (f_X12_isThing S v1) (fun a2 =>
 (if a2 = 0 then
 some (0 : Int32)
 else
 bnd (f_X12_in S v2 (0 : Int32) (9999 : Int32)) (fun a5 =>
 (if a5 = 0 then
 some (0 : Int32)
 else
 bnd (f_X12_in S v3 (0 : Int32) (1 : Int32)) (fun a8 =>
 (if a8 = 0 then
 some (0 : Int32)
 else
 some (1 : Int32)))))))
set_option maxRecDepth 20000 in
theorem v_X12_isPriced_e {ε : eT} {κ : kT} (C : Act ε κ cX12_isPriced 4 RX12 3) {S : St} {res : Int32} (X : RI ε κ (some .boolean) (some (.int res)) S) {v1 : Int32} {v2 : Int32} {v3 : Int32} (h : f_X12_isPriced S v1 v2 v3 = some res) : V ε κ 4 0 [(0, .ref (eA ε 172)), (1, .int v1), (2, .int v2), (3, .int v3)] [] (wsOf ε S) 0 0 := by
  unfold f_X12_isPriced at h
  refine V_aload_n C 0 dX12_isPriced_0 rfl rfl ?_
  refine V_iload_n C 1 dX12_isPriced_1 rfl rfl ?_
  obtain ⟨a2, e1, h⟩ := bnd_s h
  refine W_callvi C cf_X12_isThing (c_X12_isThing e1) q_ML_X12_92 (ws_X12 sk_172) rfl dX12_isPriced_2 (by decide) rfl rfl (Nat.le_of_ble_eq_true rfl) ?_
  refine V_if_eq C dX12_isPriced_5 rfl (fun c3 => ?_) (fun c3 => ?_)
  · replace h := ifp c3 h
    refine V_iconst C dX12_isPriced_32 kc_i_0 ?_
    exact V_zret C nb_0 X dX12_isPriced_33 ⟨rip_1 h, rfl⟩
  · replace h := ifn c3 h
    refine V_iload_n C 2 dX12_isPriced_8 rfl rfl ?_
    refine V_iconst C dX12_isPriced_9 kc_i_0 ?_
    refine V_sipush C dX12_isPriced_10 kc_s_9999 ?_
    obtain ⟨a5, e4, h⟩ := bnd_s h
    refine W_callsi C cf_X12_in (c_X12_in e4) q_ML_X12_47 dX12_isPriced_13 (by decide) rfl rfl (Nat.le_of_ble_eq_true rfl) ?_
    refine V_if_eq C dX12_isPriced_16 rfl (fun c6 => ?_) (fun c6 => ?_)
    · replace h := ifp c6 h
      refine V_iconst C dX12_isPriced_32 kc_i_0 ?_
      exact V_zret C nb_0 X dX12_isPriced_33 ⟨rip_1 h, rfl⟩
    · replace h := ifn c6 h
      refine V_iload_n C 3 dX12_isPriced_19 rfl rfl ?_
      refine V_iconst C dX12_isPriced_20 kc_i_0 ?_
      refine V_iconst C dX12_isPriced_21 kc_i_1 ?_
      obtain ⟨a8, e7, h⟩ := bnd_s h
      refine W_callsi C cf_X12_in (c_X12_in e7) q_ML_X12_47 dX12_isPriced_22 (by decide) rfl rfl (Nat.le_of_ble_eq_true rfl) ?_
      refine V_if_eq C dX12_isPriced_25 rfl (fun c9 => ?_) (fun c9 => ?_)
      · replace h := ifp c9 h
        refine V_iconst C dX12_isPriced_32 kc_i_0 ?_
        exact V_zret C nb_0 X dX12_isPriced_33 ⟨rip_1 h, rfl⟩
      · replace h := ifn c9 h
        refine V_iconst C dX12_isPriced_28 kc_i_1 ?_
        refine V_goto C dX12_isPriced_29 rfl ?_
        exact V_zret C nb_1 X dX12_isPriced_33 ⟨rip_1 h, rfl⟩
theorem c_X12_isPriced {ε : eT} {S : St} {v1 : Int32} {v2 : Int32} {v3 : Int32} {res : Int32} (h : f_X12_isPriced S v1 v2 v3 = some res) : CI ε yX12_isPriced cX12_isPriced 4 (some .boolean) 3 [.ref (eA ε 172), .int v1, .int v2, .int v3] S (some (.int res)) S := CI_of (by decide) (Nat.le_of_ble_eq_true rfl) rfl (fun κ C X => v_X12_isPriced_e C X h)
def f_X12_lowest_17 (N : Nat) (S : St) : Nat → Int64 → Int64 → Int32 → Int64 → Int64 → Option Int64
  | 0, _, _, _, _, _ => none
  | n + 1, v0, v2, v4, v5, v7 =>
    (if (lg_cmp v7 (0 : Int64)) = 0 then
     (if v4 = 0 then
     (if v5 = 0 then none else
     some (v0 / v5))
     else
     (if v5 = 0 then none else
     some (v2 / v5)))
     else
     (if v7 = 0 then none else
     f_X12_lowest_17 N S n v0 v2 v4 v7 (v5 - v5 / v7 * v7)))
set_option maxRecDepth 20000 in
theorem v_X12_lowest_17 {ε : eT} {κ : kT} {N : Nat} (C : Act ε κ cX12_lowest 11 RX12 1) {S : St} {res : Int64} (X : RI ε κ (some .long) (some (.long res)) S) : ∀ (n : Nat) (v0 : Int64) (v2 : Int64) (v4 : Int32) (v5 : Int64) (v7 : Int64) (h : f_X12_lowest_17 N S n v0 v2 v4 v5 v7 = some res), V ε κ 11 17 [(0, .long v0), (2, .long v2), (4, .int v4), (5, .long v5), (7, .long v7)] [] (wsOf ε S) 0 0 := by
  intro n
  induction n with
  | zero => intro v0 v2 v4 v5 v7 h; cases h
  | succ n ih =>
    intro v0 v2 v4 v5 v7 h
    rw [f_X12_lowest_17] at h
    refine V_lload C 4 dX12_lowest_17 rfl ?_
    refine V_lconst C dX12_lowest_19 kc_l_0 ?_
    refine V_lcmp C dX12_lowest_20 ?_
    refine V_if_eq C dX12_lowest_21 rfl (fun c1 => ?_) (fun c1 => ?_)
    · replace h := ifp c1 h
      refine V_iload C 2 dX12_lowest_42 rfl ?_
      refine V_if_ne C dX12_lowest_44 rfl (fun c2 => ?_) (fun c2 => ?_)
      · replace h := ifn c2 h
        refine V_lload_n C 1 dX12_lowest_54 rfl rfl ?_
        refine V_lload C 3 dX12_lowest_55 rfl ?_
        obtain ⟨g3, h⟩ := gdf h
        refine V_ldiv C dX12_lowest_57 g3 ?_
        exact V_lret C X dX12_lowest_58 ⟨rlp_1 h, rfl⟩
      · replace h := ifp c2 h
        refine V_lload_n C 0 dX12_lowest_47 rfl rfl ?_
        refine V_lload C 3 dX12_lowest_48 rfl ?_
        obtain ⟨g4, h⟩ := gdf h
        refine V_ldiv C dX12_lowest_50 g4 ?_
        refine V_goto C dX12_lowest_51 rfl ?_
        exact V_lret C X dX12_lowest_58 ⟨rlp_1 h, rfl⟩
    · replace h := ifn c1 h
      refine V_lload C 3 dX12_lowest_24 rfl ?_
      refine V_lload C 4 dX12_lowest_26 rfl ?_
      obtain ⟨g5, h⟩ := gdf h
      refine V_lrem C dX12_lowest_28 g5 ?_
      refine V_lstore (lv' := [(9, .long (v5 - v5 / v7 * v7)), (0, .long v0), (2, .long v2), (4, .int v4), (5, .long v5), (7, .long v7)]) C dX12_lowest_29 (by decide) rfl ?_
      refine V_lload C 5 dX12_lowest_31 rfl ?_
      refine V_lstore (lv' := [(5, .long v7), (9, .long (v5 - v5 / v7 * v7)), (0, .long v0), (2, .long v2), (4, .int v4), (7, .long v7)]) C dX12_lowest_33 (by decide) rfl ?_
      refine V_lload C 1 dX12_lowest_35 rfl ?_
      refine V_lstore (lv' := [(7, .long (v5 - v5 / v7 * v7)), (5, .long v7), (9, .long (v5 - v5 / v7 * v7)), (0, .long v0), (2, .long v2), (4, .int v4)]) C dX12_lowest_37 (by decide) rfl ?_
      refine V_goto C dX12_lowest_39 rfl ?_
      refine V_sub C [3, 4, 5, 1, 0] rfl ?_
      exact ih _ _ _ _ _ h
def f_X12_lowest_12 (N : Nat) (S : St) (v0 : Int64) (v2 : Int64) (v4 : Int32) (s0 : Int64) : Option Int64 :=
 f_X12_lowest_17 N S N v0 v2 v4 s0 v2
set_option maxRecDepth 20000 in
theorem v_X12_lowest_12 {ε : eT} {κ : kT} {N : Nat} (C : Act ε κ cX12_lowest 11 RX12 1) {S : St} {res : Int64} (X : RI ε κ (some .long) (some (.long res)) S) {v0 : Int64} {v2 : Int64} {v4 : Int32} {s0 : Int64} (h : f_X12_lowest_12 N S v0 v2 v4 s0 = some res) : V ε κ 11 12 [(0, .long v0), (2, .long v2), (4, .int v4)] [.long s0] (wsOf ε S) 0 0 := by
  unfold f_X12_lowest_12 at h
  refine V_lstore (lv' := [(5, .long s0), (0, .long v0), (2, .long v2), (4, .int v4)]) C dX12_lowest_12 (by decide) rfl ?_
  refine V_lload_n C 2 dX12_lowest_14 rfl rfl ?_
  refine V_lstore (lv' := [(7, .long v2), (5, .long s0), (0, .long v0), (2, .long v2), (4, .int v4)]) C dX12_lowest_15 (by decide) rfl ?_
  refine V_sub C [2, 3, 4, 1, 0] rfl ?_
  exact v_X12_lowest_17 C X N _ _ _ _ _ h
def f_X12_lowest (N : Nat) (S : St) (v0 : Int64) (v2 : Int64) (v4 : Int32) : Option Int64 :=
 (if 0 ≤ (lg_cmp v0 (0 : Int64)) then
 f_X12_lowest_12 N S v0 v2 v4 v0
 else
 f_X12_lowest_12 N S v0 v2 v4 (-v0))
set_option maxRecDepth 20000 in
theorem v_X12_lowest_e {ε : eT} {κ : kT} {N : Nat} (C : Act ε κ cX12_lowest 11 RX12 1) {S : St} {res : Int64} (X : RI ε κ (some .long) (some (.long res)) S) {v0 : Int64} {v2 : Int64} {v4 : Int32} (h : f_X12_lowest N S v0 v2 v4 = some res) : V ε κ 11 0 [(0, .long v0), (2, .long v2), (4, .int v4)] [] (wsOf ε S) 0 0 := by
  unfold f_X12_lowest at h
  refine V_lload_n C 0 dX12_lowest_0 rfl rfl ?_
  refine V_lconst C dX12_lowest_1 kc_l_0 ?_
  refine V_lcmp C dX12_lowest_2 ?_
  refine V_if_ge C dX12_lowest_3 rfl (fun c1 => ?_) (fun c1 => ?_)
  · replace h := ifp c1 h
    refine V_lload_n C 0 dX12_lowest_11 rfl rfl ?_
    exact v_X12_lowest_12 C X h
  · replace h := ifn c1 h
    refine V_lload_n C 0 dX12_lowest_6 rfl rfl ?_
    refine V_lneg C dX12_lowest_7 ?_
    refine V_goto C dX12_lowest_8 rfl ?_
    exact v_X12_lowest_12 C X h
theorem c_X12_lowest {ε : eT} {N : Nat} {S : St} {v0 : Int64} {v2 : Int64} {v4 : Int32} {res : Int64} (h : f_X12_lowest N S v0 v2 v4 = some res) : CI ε yX12_lowest cX12_lowest 11 (some .long) 1 [.long v0, .long v2, .int v4] S (some (.long res)) S := CI_of (by decide) (Nat.le_of_ble_eq_true rfl) rfl (fun κ C X => v_X12_lowest_e C X h)
def f_X12_gain (N : Nat) (S : St) (v1 : Int32) (v2 : Int32) (v3 : Int32) : Option (Int64 × St) :=
 bnd (f_X12_isPriced S v1 v2 v3) (fun a2 =>
 (if a2 = 0 then
 bnd2 (f_X12_error S (1 : Int32)) (fun a11 S12 =>
 some ((a11).toInt64, S12))
 else
 bnd (f_X12_gainOf N S v1 v2 (S.1 173 10)) (fun a5 =>
 bnd (f_X12_allBelow N S v1) (fun a7 =>
 bnd (f_X12_lowest N S a5 ((100 : Int64) * a7) v3) (fun a9 =>
 some (a9, S))))))
set_option maxRecDepth 20000 in
theorem v_X12_gain_e {ε : eT} {κ : kT} {N : Nat} (C : Act ε κ cX12_gain 4 RX12 5) {S : St} {res : (Int64 × St)} (X : RI ε κ (some .long) (some (.long res.1)) res.2) {v1 : Int32} {v2 : Int32} {v3 : Int32} (h : f_X12_gain N S v1 v2 v3 = some res) : V ε κ 4 0 [(0, .ref (eA ε 172)), (1, .int v1), (2, .int v2), (3, .int v3)] [] (wsOf ε S) 0 0 := by
  unfold f_X12_gain at h
  refine V_aload_n C 0 dX12_gain_0 rfl rfl ?_
  refine V_iload_n C 1 dX12_gain_1 rfl rfl ?_
  refine V_iload_n C 2 dX12_gain_2 rfl rfl ?_
  refine V_iload_n C 3 dX12_gain_3 rfl rfl ?_
  obtain ⟨a2, e1, h⟩ := bnd_s h
  refine W_callvi C cf_X12_isPriced (c_X12_isPriced e1) q_ML_X12_217 (ws_X12 sk_172) rfl dX12_gain_4 (by decide) rfl rfl (Nat.le_of_ble_eq_true rfl) ?_
  refine V_if_ne C dX12_gain_7 rfl (fun c3 => ?_) (fun c3 => ?_)
  · replace h := ifn c3 h
    refine V_aload_n C 0 dX12_gain_17 rfl rfl ?_
    refine V_iload_n C 1 dX12_gain_18 rfl rfl ?_
    refine V_iload_n C 2 dX12_gain_19 rfl rfl ?_
    refine V_aload_n C 0 dX12_gain_20 rfl rfl ?_
    refine G_X12_s (q := 172) C sk_172 q_FL_X12_7 dX12_gain_21 ?_
    refine V_bipush C dX12_gain_24 kc_b_10 ?_
    refine W_ialdc (q := 173) C sk_173 (j := 10) tn_10 (by decide) dX12_gain_26 ?_
    obtain ⟨a5, e4, h⟩ := bnd_s h
    refine W_callvl C cf_X12_gainOf (c_X12_gainOf e4) q_ML_X12_224 (ws_X12 sk_172) rfl dX12_gain_27 (by decide) rfl rfl (Nat.le_of_ble_eq_true rfl) ?_
    refine V_ldc2 C q_KL_X12_215 dX12_gain_30 ?_
    refine V_aload_n C 0 dX12_gain_33 rfl rfl ?_
    refine V_iload_n C 1 dX12_gain_34 rfl rfl ?_
    obtain ⟨a7, e6, h⟩ := bnd_s h
    refine W_callvl C cf_X12_allBelow (c_X12_allBelow e6) q_ML_X12_207 (ws_X12 sk_172) rfl dX12_gain_35 (by decide) rfl rfl (Nat.le_of_ble_eq_true rfl) ?_
    refine V_lmul C dX12_gain_38 ?_
    refine V_iload_n C 3 dX12_gain_39 rfl rfl ?_
    obtain ⟨a9, e8, h⟩ := bnd_s h
    refine W_callsl C cf_X12_lowest (c_X12_lowest e8) q_ML_X12_220 dX12_gain_40 (by decide) rfl rfl (Nat.le_of_ble_eq_true rfl) ?_
    exact V_lret C X dX12_gain_43 ⟨rl_1 h, ri_2 h⟩
  · replace h := ifp c3 h
    refine V_aload_n C 0 dX12_gain_10 rfl rfl ?_
    refine V_iconst C dX12_gain_11 kc_i_1 ?_
    obtain ⟨a11, S12, e10, h⟩ := bnd2_s h
    refine W_callvi C cf_X12_error (c_X12_error e10) q_ML_X12_60 (ws_X12 sk_172) rfl dX12_gain_12 (by decide) rfl rfl (Nat.le_of_ble_eq_true rfl) ?_
    refine V_i2l C dX12_gain_15 ?_
    exact V_lret C X dX12_gain_16 ⟨rl_1 h, ri_2 h⟩
theorem c_X12_gain {ε : eT} {N : Nat} {S : St} {v1 : Int32} {v2 : Int32} {v3 : Int32} {res : (Int64 × St)} (h : f_X12_gain N S v1 v2 v3 = some res) : CI ε yX12_gain cX12_gain 4 (some .long) 5 [.ref (eA ε 172), .int v1, .int v2, .int v3] S (some (.long res.1)) res.2 := CI_of (by decide) (Nat.le_of_ble_eq_true rfl) rfl (fun κ C X => v_X12_gain_e C X h)
def f_X12_gets_40 (S : St) (s0 : Int32) (s1 : Int32) : Option St :=
 (if inb s1 516 = true then
 some (pt S 173 s1.toNatClampNeg s0)
 else none)
set_option maxRecDepth 20000 in
theorem v_X12_gets_40 {ε : eT} {κ : kT} (C : Act ε κ cX12_gets 4 RX12 1) {S : St} {res : St} (X : RI ε κ none none res) {s0 : Int32} {s1 : Int32} (h : f_X12_gets_40 S s0 s1 = some res) : V ε κ 4 40 [] [.int s0, .int s1, .ref (eA ε 173)] (wsOf ε S) 0 0 := by
  unfold f_X12_gets_40 at h
  obtain ⟨g1, h⟩ := gdt h
  refine W_iast (q := 173) C sk_173 g1 dX12_gets_40 ?_
  exact V_vret C X dX12_gets_41 ⟨rfl, rv_2 h⟩
def f_X12_gets (S : St) (v1 : Int32) (v2 : Int32) : Option St :=
 (if inb (((20 : Int32) + ((4 : Int32) * v1)) + (1 : Int32)) 516 = true then
 (if v2 ≤ ((999999 : Int32) - (S.1 173 (((20 : Int32) + ((4 : Int32) * v1)) + (1 : Int32)).toNatClampNeg)) then
 (if inb (((20 : Int32) + ((4 : Int32) * v1)) + (1 : Int32)) 516 = true then
 f_X12_gets_40 S ((S.1 173 (((20 : Int32) + ((4 : Int32) * v1)) + (1 : Int32)).toNatClampNeg) + v2) (((20 : Int32) + ((4 : Int32) * v1)) + (1 : Int32))
 else none)
 else
 f_X12_gets_40 S (999999 : Int32) (((20 : Int32) + ((4 : Int32) * v1)) + (1 : Int32)))
 else none)
set_option maxRecDepth 20000 in
theorem v_X12_gets_e {ε : eT} {κ : kT} (C : Act ε κ cX12_gets 4 RX12 1) {S : St} {res : St} (X : RI ε κ none none res) {v1 : Int32} {v2 : Int32} (h : f_X12_gets S v1 v2 = some res) : V ε κ 4 0 [(0, .ref (eA ε 172)), (1, .int v1), (2, .int v2)] [] (wsOf ε S) 0 0 := by
  unfold f_X12_gets at h
  refine V_bipush C dX12_gets_0 kc_b_20 ?_
  refine V_iconst C dX12_gets_2 kc_i_4 ?_
  refine V_iload_n C 1 dX12_gets_3 rfl rfl ?_
  refine V_imul C dX12_gets_4 ?_
  refine V_iadd C dX12_gets_5 ?_
  refine V_iconst C dX12_gets_6 kc_i_1 ?_
  refine V_iadd C dX12_gets_7 ?_
  refine V_istore_n (lv' := [(3, .int (((20 : Int32) + ((4 : Int32) * v1)) + (1 : Int32))), (0, .ref (eA ε 172)), (1, .int v1), (2, .int v2)]) C dX12_gets_8 rfl (by decide) rfl ?_
  refine V_aload_n C 1 dX12_gets_9 rfl rfl ?_
  refine G_X12_s (q := 172) C sk_172 q_FL_X12_7 dX12_gets_10 ?_
  refine V_iload_n C 0 dX12_gets_13 rfl rfl ?_
  refine V_iload_n C 3 dX12_gets_14 rfl rfl ?_
  refine V_ldc C q_K_X12_55 dX12_gets_15 ?_
  refine V_aload_n C 1 dX12_gets_17 rfl rfl ?_
  refine G_X12_s (q := 172) C sk_172 q_FL_X12_7 dX12_gets_18 ?_
  refine V_iload_n C 0 dX12_gets_21 rfl rfl ?_
  obtain ⟨g1, h⟩ := gdt h
  refine W_iald (q := 173) C sk_173 g1 dX12_gets_22 ?_
  refine V_isub C dX12_gets_23 ?_
  refine V_icmp_le C dX12_gets_24 rfl (fun c2 => ?_) (fun c2 => ?_)
  · replace h := ifp c2 h
    refine V_aload_n C 1 dX12_gets_32 rfl rfl ?_
    refine G_X12_s (q := 172) C sk_172 q_FL_X12_7 dX12_gets_33 ?_
    refine V_iload_n C 0 dX12_gets_36 rfl rfl ?_
    obtain ⟨g3, h⟩ := gdt h
    refine W_iald (q := 173) C sk_173 g3 dX12_gets_37 ?_
    refine V_iload_n C 3 dX12_gets_38 rfl rfl ?_
    refine V_iadd C dX12_gets_39 ?_
    refine V_sub C [] rfl ?_
    exact v_X12_gets_40 C X h
  · replace h := ifn c2 h
    refine V_ldc C q_K_X12_55 dX12_gets_27 ?_
    refine V_goto C dX12_gets_29 rfl ?_
    refine V_sub C [] rfl ?_
    exact v_X12_gets_40 C X h
theorem c_X12_gets {ε : eT} {S : St} {v1 : Int32} {v2 : Int32} {res : St} (h : f_X12_gets S v1 v2 = some res) : CI ε yX12_gets cX12_gets 4 none 1 [.ref (eA ε 172), .int v1, .int v2] S none res := CI_of (by decide) (Nat.le_of_ble_eq_true rfl) rfl (fun κ C X => v_X12_gets_e C X h)
def f_X12_partNow (S : St) : Option Int32 :=
 bnd (f_X12_who S (S.1 172 14) (2 : Int32)) (fun a2 =>
 some a2)
set_option maxRecDepth 20000 in
theorem v_X12_partNow_e {ε : eT} {κ : kT} (C : Act ε κ cX12_partNow 1 RX12 2) {S : St} {res : Int32} (X : RI ε κ (some .int) (some (.int res)) S) (h : f_X12_partNow S = some res) : V ε κ 1 0 [(0, .ref (eA ε 172))] [] (wsOf ε S) 0 0 := by
  unfold f_X12_partNow at h
  refine V_aload_n C 0 dX12_partNow_0 rfl rfl ?_
  refine V_aload_n C 0 dX12_partNow_1 rfl rfl ?_
  refine G_X12_speaks (q := 172) C sk_172 q_FL_X12_248 dX12_partNow_2 ?_
  refine V_iconst C dX12_partNow_5 kc_i_2 ?_
  obtain ⟨a2, e1, h⟩ := bnd_s h
  refine W_callvi C cf_X12_who (c_X12_who e1) q_ML_X12_79 (ws_X12 sk_172) rfl dX12_partNow_6 (by decide) rfl rfl (Nat.le_of_ble_eq_true rfl) ?_
  exact V_iret C X dX12_partNow_9 ⟨rip_1 h, rfl⟩
theorem c_X12_partNow {ε : eT} {S : St} {res : Int32} (h : f_X12_partNow S = some res) : CI ε yX12_partNow cX12_partNow 1 (some .int) 2 [.ref (eA ε 172)] S (some (.int res)) S := CI_of (by decide) (Nat.le_of_ble_eq_true rfl) rfl (fun κ C X => v_X12_partNow_e C X h)
def f_X12_gives : Nat → St → Int32 → Int32 → Option (Int32 × St)
  | 0, _, _, _ => none
  | d + 1, S, v1, v2 =>
    (if v1 = 0 then
     bnd (f_X12_begins S (12 : Int32)) (fun S5 =>
     bnd (f_X12_kindNow S5) (fun a7 =>
     bnd2 (f_X12_buys 8 S5 a7 v2) (fun a9 S10 =>
     bnd (f_X12_partNow S10) (fun a12 =>
     some ((a9 - a12), S10)))))
     else
     (if v1 = 3 then
     bnd (f_X12_begins S (41 : Int32)) (fun S14 =>
     bnd (f_X12_above S14 (3 : Int32)) (fun a16 =>
     bnd2 ((f_X12_gives d) S14 a16 v2) (fun a18 S19 =>
     some ((a18 ^^^ (S19.1 172 14)), S19))))
     else
     (if v1 = 4 then
     bnd (f_X12_begins S (50 : Int32)) (fun S21 =>
     bnd (f_X12_above S21 (4 : Int32)) (fun a23 =>
     bnd2 ((f_X12_gives d) S21 a23 (v2 + (1 : Int32))) (fun a25 S26 =>
     some (a25, S26))))
     else
     bnd (f_X12_above S v1) (fun a28 =>
     bnd2 ((f_X12_gives d) S a28 v2) (fun a30 S31 =>
     some (a30, S31))))))
def g_X12_gives (rc : St → Int32 → Int32 → Option (Int32 × St)) (S : St) (v1 : Int32) (v2 : Int32) : Option (Int32 × St) :=
 (if v1 = 0 then
     bnd (f_X12_begins S (12 : Int32)) (fun S5 =>
     bnd (f_X12_kindNow S5) (fun a7 =>
     bnd2 (f_X12_buys 8 S5 a7 v2) (fun a9 S10 =>
     bnd (f_X12_partNow S10) (fun a12 =>
     some ((a9 - a12), S10)))))
     else
     (if v1 = 3 then
     bnd (f_X12_begins S (41 : Int32)) (fun S14 =>
     bnd (f_X12_above S14 (3 : Int32)) (fun a16 =>
     bnd2 (rc S14 a16 v2) (fun a18 S19 =>
     some ((a18 ^^^ (S19.1 172 14)), S19))))
     else
     (if v1 = 4 then
     bnd (f_X12_begins S (50 : Int32)) (fun S21 =>
     bnd (f_X12_above S21 (4 : Int32)) (fun a23 =>
     bnd2 (rc S21 a23 (v2 + (1 : Int32))) (fun a25 S26 =>
     some (a25, S26))))
     else
     bnd (f_X12_above S v1) (fun a28 =>
     bnd2 (rc S a28 v2) (fun a30 S31 =>
     some (a30, S31))))))
set_option maxRecDepth 20000 in
theorem v_X12_gives_e {ε : eT} {κ : kT} {rc : St → Int32 → Int32 → Option (Int32 × St)} {e : Nat} (C : Act ε κ cX12_gives 3 RX12 (e + 1)) {S : St} {res : (Int32 × St)} (X : RI ε κ (some .int) (some (.int res.1)) res.2) (hrc : ∀ (S : St) (v1 : Int32) (v2 : Int32) (res : (Int32 × St)), rc S v1 v2 = some res → CI ε yX12_gives cX12_gives 3 (some .int) e [.ref (eA ε 172), .int v1, .int v2] S (some (.int res.1)) res.2) (he : 28 ≤ e) {v1 : Int32} {v2 : Int32} (h : g_X12_gives rc S v1 v2 = some res) : V ε κ 3 0 [(0, .ref (eA ε 172)), (1, .int v1), (2, .int v2)] [] (wsOf ε S) 0 0 := by
  unfold g_X12_gives at h
  refine V_iload_n C 1 dX12_gives_0 rfl rfl ?_
  by_cases c1 : v1 = 0
  · replace h := ifp c1 h
    refine V_table C rfl dX12_gives_1 (off := 35) (by rw [c1]; decide +kernel) (tgt := 36) rfl ?_
    refine V_aload_n C 0 dX12_gives_36 rfl rfl ?_
    refine V_bipush C dX12_gives_37 kc_b_12 ?_
    obtain ⟨S5, e4, h⟩ := bnd_s h
    refine W_callvn C cf_X12_begins (c_X12_begins e4) q_ML_X12_251 (ws_X12 sk_172) rfl dX12_gives_39 (by omega) rfl rfl (Nat.le_of_ble_eq_true rfl) ?_
    refine V_aload_n C 0 dX12_gives_42 rfl rfl ?_
    refine V_aload_n C 0 dX12_gives_43 rfl rfl ?_
    obtain ⟨a7, e6, h⟩ := bnd_s h
    refine W_callvi C cf_X12_kindNow (c_X12_kindNow e6) q_ML_X12_260 (ws_X12 sk_172) rfl dX12_gives_44 (by omega) rfl rfl (Nat.le_of_ble_eq_true rfl) ?_
    refine V_iload_n C 2 dX12_gives_47 rfl rfl ?_
    obtain ⟨a9, S10, e8, h⟩ := bnd2_s h
    refine W_callvi C cf_X12_buys (c_X12_buys 8 e8) q_ML_X12_263 (ws_X12 sk_172) rfl dX12_gives_48 (by omega) rfl rfl (Nat.le_of_ble_eq_true rfl) ?_
    refine V_aload_n C 0 dX12_gives_51 rfl rfl ?_
    obtain ⟨a12, e11, h⟩ := bnd_s h
    refine W_callvi C cf_X12_partNow (c_X12_partNow e11) q_ML_X12_266 (ws_X12 sk_172) rfl dX12_gives_52 (by omega) rfl rfl (Nat.le_of_ble_eq_true rfl) ?_
    refine V_isub C dX12_gives_55 ?_
    exact V_iret C X dX12_gives_56 ⟨ri_1 h, ri_2 h⟩
  · replace h := ifn c1 h
    by_cases c2 : v1 = 3
    · replace h := ifp c2 h
      refine V_table C rfl dX12_gives_1 (off := 56) (by rw [c2]; decide +kernel) (tgt := 57) rfl ?_
      refine V_aload_n C 0 dX12_gives_57 rfl rfl ?_
      refine V_bipush C dX12_gives_58 kc_b_41 ?_
      obtain ⟨S14, e13, h⟩ := bnd_s h
      refine W_callvn C cf_X12_begins (c_X12_begins e13) q_ML_X12_251 (ws_X12 sk_172) rfl dX12_gives_60 (by omega) rfl rfl (Nat.le_of_ble_eq_true rfl) ?_
      refine V_aload_n C 0 dX12_gives_63 rfl rfl ?_
      refine V_iconst C dX12_gives_64 kc_i_3 ?_
      obtain ⟨a16, e15, h⟩ := bnd_s h
      refine W_callsi C cf_X12_above (c_X12_above e15) q_ML_X12_254 dX12_gives_65 (by omega) rfl rfl (Nat.le_of_ble_eq_true rfl) ?_
      refine V_iload_n C 2 dX12_gives_68 rfl rfl ?_
      obtain ⟨a18, S19, e17, h⟩ := bnd2_s h
      refine W_callvi C cf_X12_gives (hrc _ _ _ _ e17) q_ML_X12_269 (ws_X12 sk_172) rfl dX12_gives_69 (by omega) rfl rfl (Nat.le_of_ble_eq_true rfl) ?_
      refine V_aload_n C 0 dX12_gives_72 rfl rfl ?_
      refine G_X12_speaks (q := 172) C sk_172 q_FL_X12_248 dX12_gives_73 ?_
      refine V_ixor C dX12_gives_76 ?_
      exact V_iret C X dX12_gives_77 ⟨ri_1 h, ri_2 h⟩
    · replace h := ifn c2 h
      by_cases c3 : v1 = 4
      · replace h := ifp c3 h
        refine V_table C rfl dX12_gives_1 (off := 77) (by rw [c3]; decide +kernel) (tgt := 78) rfl ?_
        refine V_aload_n C 0 dX12_gives_78 rfl rfl ?_
        refine V_bipush C dX12_gives_79 kc_b_50 ?_
        obtain ⟨S21, e20, h⟩ := bnd_s h
        refine W_callvn C cf_X12_begins (c_X12_begins e20) q_ML_X12_251 (ws_X12 sk_172) rfl dX12_gives_81 (by omega) rfl rfl (Nat.le_of_ble_eq_true rfl) ?_
        refine V_aload_n C 0 dX12_gives_84 rfl rfl ?_
        refine V_iconst C dX12_gives_85 kc_i_4 ?_
        obtain ⟨a23, e22, h⟩ := bnd_s h
        refine W_callsi C cf_X12_above (c_X12_above e22) q_ML_X12_254 dX12_gives_86 (by omega) rfl rfl (Nat.le_of_ble_eq_true rfl) ?_
        refine V_iload_n C 2 dX12_gives_89 rfl rfl ?_
        refine V_iconst C dX12_gives_90 kc_i_1 ?_
        refine V_iadd C dX12_gives_91 ?_
        obtain ⟨a25, S26, e24, h⟩ := bnd2_s h
        refine W_callvi C cf_X12_gives (hrc _ _ _ _ e24) q_ML_X12_269 (ws_X12 sk_172) rfl dX12_gives_92 (by omega) rfl rfl (Nat.le_of_ble_eq_true rfl) ?_
        exact V_iret C X dX12_gives_95 ⟨ri_1 h, ri_2 h⟩
      · replace h := ifn c3 h
        refine V_table C rfl dX12_gives_1 (swt_d [(0 : Int32), (3 : Int32), (4 : Int32)] (List.forall_mem_cons.mpr ⟨c1, (List.forall_mem_cons.mpr ⟨c2, (List.forall_mem_cons.mpr ⟨c3, (fun _ h => absurd h List.not_mem_nil)⟩)⟩)⟩) rfl (by decide +kernel)) (tgt := 96) rfl ?_
        refine V_aload_n C 0 dX12_gives_96 rfl rfl ?_
        refine V_iload_n C 1 dX12_gives_97 rfl rfl ?_
        obtain ⟨a28, e27, h⟩ := bnd_s h
        refine W_callsi C cf_X12_above (c_X12_above e27) q_ML_X12_254 dX12_gives_98 (by omega) rfl rfl (Nat.le_of_ble_eq_true rfl) ?_
        refine V_iload_n C 2 dX12_gives_101 rfl rfl ?_
        obtain ⟨a30, S31, e29, h⟩ := bnd2_s h
        refine W_callvi C cf_X12_gives (hrc _ _ _ _ e29) q_ML_X12_269 (ws_X12 sk_172) rfl dX12_gives_102 (by omega) rfl rfl (Nat.le_of_ble_eq_true rfl) ?_
        exact V_iret C X dX12_gives_105 ⟨ri_1 h, ri_2 h⟩
theorem c_X12_gives {ε : eT} : ∀ (d : Nat) {S : St} {v1 : Int32} {v2 : Int32} {res : (Int32 × St)}, f_X12_gives d S v1 v2 = some res → CI ε yX12_gives cX12_gives 3 (some .int) (28 + 1 * d) [.ref (eA ε 172), .int v1, .int v2] S (some (.int res.1)) res.2 := by
  intro d
  induction d with
  | zero => intro S v1 v2 res  h; cases h
  | succ d ih =>
    intro S v1 v2 res  h
    rw [show 28 + 1 * (d + 1) = (28 + 1 * d) + 1 from by omega]
    exact CI_of (by decide) (Nat.le_of_ble_eq_true rfl) rfl (fun κ C X => v_X12_gives_e C X (rc := f_X12_gives d) (fun S v1 v2 res h => ih h) (by omega) h)
def f_X12_greatestElse_43 (N : Nat) (S : St) (K4 : Int32 → Int32 → Int32 → Option Int32) (v1 : Int32) (v3 : Int32) (s0 : Int32) : Option Int32 :=
 K4 v1 s0 (v3 + 1)
set_option maxRecDepth 20000 in
theorem v_X12_greatestElse_43 {ε : eT} {κ : kT} {N : Nat} (C : Act ε κ cX12_greatestElse 5 RX12 3) {S : St} {res : Int32} (X : RI ε κ (some .int) (some (.int res)) S) {K4 : Int32 → Int32 → Int32 → Option Int32} (hK4 : ∀ (v1 : Int32) (v2 : Int32) (v3 : Int32), K4 v1 v2 v3 = some res → V ε κ 5 4 [(0, .ref (eA ε 172)), (1, .int v1), (2, .int v2), (3, .int v3)] [] (wsOf ε S) 0 0) {v1 : Int32} {v3 : Int32} {s0 : Int32} (h : f_X12_greatestElse_43 N S K4 v1 v3 s0 = some res) : V ε κ 5 43 [(0, .ref (eA ε 172)), (1, .int v1), (3, .int v3)] [.int s0] (wsOf ε S) 0 0 := by
  unfold f_X12_greatestElse_43 at h
  refine V_istore_n (lv' := [(2, .int s0), (0, .ref (eA ε 172)), (1, .int v1), (3, .int v3)]) C dX12_greatestElse_43 rfl (by decide) rfl ?_
  refine V_iinc (v := (v3 + 1)) (lv' := [(3, .int (v3 + 1)), (2, .int s0), (0, .ref (eA ε 172)), (1, .int v1)]) C 3 dX12_greatestElse_44 rfl (congrArg _ kc_i_1) (by decide) rfl ?_
  refine V_goto C dX12_greatestElse_47 rfl ?_
  refine V_sub C [2, 3, 1, 0] rfl ?_
  exact hK4 _ _ _ h
def f_X12_greatestElse_42 (N : Nat) (S : St) (K4 : Int32 → Int32 → Int32 → Option Int32) (v1 : Int32) (v2 : Int32) (v3 : Int32) : Option Int32 :=
 f_X12_greatestElse_43 N S K4 v1 v3 v2
set_option maxRecDepth 20000 in
theorem v_X12_greatestElse_42 {ε : eT} {κ : kT} {N : Nat} (C : Act ε κ cX12_greatestElse 5 RX12 3) {S : St} {res : Int32} (X : RI ε κ (some .int) (some (.int res)) S) {K4 : Int32 → Int32 → Int32 → Option Int32} (hK4 : ∀ (v1 : Int32) (v2 : Int32) (v3 : Int32), K4 v1 v2 v3 = some res → V ε κ 5 4 [(0, .ref (eA ε 172)), (1, .int v1), (2, .int v2), (3, .int v3)] [] (wsOf ε S) 0 0) {v1 : Int32} {v2 : Int32} {v3 : Int32} (h : f_X12_greatestElse_42 N S K4 v1 v2 v3 = some res) : V ε κ 5 42 [(0, .ref (eA ε 172)), (1, .int v1), (2, .int v2), (3, .int v3)] [] (wsOf ε S) 0 0 := by
  unfold f_X12_greatestElse_42 at h
  refine V_iload_n C 2 dX12_greatestElse_42 rfl rfl ?_
  refine V_sub C [0, 1, 3] rfl ?_
  exact v_X12_greatestElse_43 C X hK4 h
def f_X12_greatestElse_4 (N : Nat) (S : St) : Nat → Int32 → Int32 → Int32 → Option Int32
  | 0, _, _, _ => none
  | n + 1, v1, v2, v3 =>
    (if (S.1 173 0) ≤ v3 then
     some v2
     else
     bnd (f_X12_valueTo S v3 v1) (fun a3 =>
     bnd (f_X12_owner S v1) (fun a5 =>
     (if v3 = a5 then
     f_X12_greatestElse_42 N S (f_X12_greatestElse_4 N S n) v1 v2 v3
     else
     (if a3 ≤ v2 then
     f_X12_greatestElse_42 N S (f_X12_greatestElse_4 N S n) v1 v2 v3
     else
     f_X12_greatestElse_43 N S (f_X12_greatestElse_4 N S n) v1 v3 a3)))))
set_option maxRecDepth 20000 in
theorem v_X12_greatestElse_4 {ε : eT} {κ : kT} {N : Nat} (C : Act ε κ cX12_greatestElse 5 RX12 3) {S : St} {res : Int32} (X : RI ε κ (some .int) (some (.int res)) S) : ∀ (n : Nat) (v1 : Int32) (v2 : Int32) (v3 : Int32) (h : f_X12_greatestElse_4 N S n v1 v2 v3 = some res), V ε κ 5 4 [(0, .ref (eA ε 172)), (1, .int v1), (2, .int v2), (3, .int v3)] [] (wsOf ε S) 0 0 := by
  intro n
  induction n with
  | zero => intro v1 v2 v3 h; cases h
  | succ n ih =>
    intro v1 v2 v3 h
    rw [f_X12_greatestElse_4] at h
    refine V_iload_n C 3 dX12_greatestElse_4 rfl rfl ?_
    refine V_aload_n C 0 dX12_greatestElse_5 rfl rfl ?_
    refine G_X12_s (q := 172) C sk_172 q_FL_X12_7 dX12_greatestElse_6 ?_
    refine V_iconst C dX12_greatestElse_9 kc_i_0 ?_
    refine W_ialdc (q := 173) C sk_173 (j := 0) tn_0 (by decide) dX12_greatestElse_10 ?_
    refine V_icmp_ge C dX12_greatestElse_11 rfl (fun c1 => ?_) (fun c1 => ?_)
    · replace h := ifp c1 h
      refine V_iload_n C 2 dX12_greatestElse_50 rfl rfl ?_
      exact V_iret C X dX12_greatestElse_51 ⟨rip_1 h, rfl⟩
    · replace h := ifn c1 h
      refine V_aload_n C 0 dX12_greatestElse_14 rfl rfl ?_
      refine V_iload_n C 3 dX12_greatestElse_15 rfl rfl ?_
      refine V_iload_n C 1 dX12_greatestElse_16 rfl rfl ?_
      obtain ⟨a3, e2, h⟩ := bnd_s h
      refine W_callvi C cf_X12_valueTo (c_X12_valueTo e2) q_ML_X12_73 (ws_X12 sk_172) rfl dX12_greatestElse_17 (by decide) rfl rfl (Nat.le_of_ble_eq_true rfl) ?_
      refine V_istore (lv' := [(4, .int a3), (0, .ref (eA ε 172)), (1, .int v1), (2, .int v2), (3, .int v3)]) C dX12_greatestElse_20 (by decide) rfl ?_
      refine V_iload_n C 4 dX12_greatestElse_22 rfl rfl ?_
      refine V_aload_n C 1 dX12_greatestElse_23 rfl rfl ?_
      refine V_iload_n C 2 dX12_greatestElse_24 rfl rfl ?_
      obtain ⟨a5, e4, h⟩ := bnd_s h
      refine W_callvi C cf_X12_owner (c_X12_owner e4) q_ML_X12_67 (ws_X12 sk_172) rfl dX12_greatestElse_25 (by decide) rfl rfl (Nat.le_of_ble_eq_true rfl) ?_
      refine V_icmp_eq C dX12_greatestElse_28 rfl (fun c6 => ?_) (fun c6 => ?_)
      · replace h := ifp c6 h
        refine V_sub C [1, 2, 3, 4] rfl ?_
        exact v_X12_greatestElse_42 C X ih h
      · replace h := ifn c6 h
        refine V_iload C 0 dX12_greatestElse_31 rfl ?_
        refine V_iload_n C 3 dX12_greatestElse_33 rfl rfl ?_
        refine V_icmp_le C dX12_greatestElse_34 rfl (fun c7 => ?_) (fun c7 => ?_)
        · replace h := ifp c7 h
          refine V_sub C [1, 2, 3, 4] rfl ?_
          exact v_X12_greatestElse_42 C X ih h
        · replace h := ifn c7 h
          refine V_iload C 0 dX12_greatestElse_37 rfl ?_
          refine V_goto C dX12_greatestElse_39 rfl ?_
          refine V_sub C [1, 2, 4] rfl ?_
          exact v_X12_greatestElse_43 C X ih h
def f_X12_greatestElse (N : Nat) (S : St) (v1 : Int32) : Option Int32 :=
 f_X12_greatestElse_4 N S N v1 (0 : Int32) (0 : Int32)
set_option maxRecDepth 20000 in
theorem v_X12_greatestElse_e {ε : eT} {κ : kT} {N : Nat} (C : Act ε κ cX12_greatestElse 5 RX12 3) {S : St} {res : Int32} (X : RI ε κ (some .int) (some (.int res)) S) {v1 : Int32} (h : f_X12_greatestElse N S v1 = some res) : V ε κ 5 0 [(0, .ref (eA ε 172)), (1, .int v1)] [] (wsOf ε S) 0 0 := by
  unfold f_X12_greatestElse at h
  refine V_iconst C dX12_greatestElse_0 kc_i_0 ?_
  refine V_istore_n (lv' := [(2, .int (0 : Int32)), (0, .ref (eA ε 172)), (1, .int v1)]) C dX12_greatestElse_1 rfl (by decide) rfl ?_
  refine V_iconst C dX12_greatestElse_2 kc_i_0 ?_
  refine V_istore_n (lv' := [(3, .int (0 : Int32)), (2, .int (0 : Int32)), (0, .ref (eA ε 172)), (1, .int v1)]) C dX12_greatestElse_3 rfl (by decide) rfl ?_
  refine V_sub C [2, 3, 1, 0] rfl ?_
  exact v_X12_greatestElse_4 C X N _ _ _ h
theorem c_X12_greatestElse {ε : eT} {N : Nat} {S : St} {v1 : Int32} {res : Int32} (h : f_X12_greatestElse N S v1 = some res) : CI ε yX12_greatestElse cX12_greatestElse 5 (some .int) 3 [.ref (eA ε 172), .int v1] S (some (.int res)) S := CI_of (by decide) (Nat.le_of_ble_eq_true rfl) rfl (fun κ C X => v_X12_greatestElse_e C X h)
def f_X12_hasText (S : St) (v1 : Int32) : Option Int32 :=
 (if inb ((182 : Int32) + ((125 : Int32) * v1)) 516 = true then
 (if (S.1 173 ((182 : Int32) + ((125 : Int32) * v1)).toNatClampNeg) ≤ 0 then
 some (0 : Int32)
 else
 some (1 : Int32))
 else none)
set_option maxRecDepth 20000 in
theorem v_X12_hasText_e {ε : eT} {κ : kT} (C : Act ε κ cX12_hasText 2 RX12 1) {S : St} {res : Int32} (X : RI ε κ (some .boolean) (some (.int res)) S) {v1 : Int32} (h : f_X12_hasText S v1 = some res) : V ε κ 2 0 [(0, .ref (eA ε 172)), (1, .int v1)] [] (wsOf ε S) 0 0 := by
  unfold f_X12_hasText at h
  refine V_aload_n C 0 dX12_hasText_0 rfl rfl ?_
  refine G_X12_s (q := 172) C sk_172 q_FL_X12_7 dX12_hasText_1 ?_
  refine V_sipush C dX12_hasText_4 kc_s_182 ?_
  refine V_bipush C dX12_hasText_7 kc_b_125 ?_
  refine V_iload_n C 1 dX12_hasText_9 rfl rfl ?_
  refine V_imul C dX12_hasText_10 ?_
  refine V_iadd C dX12_hasText_11 ?_
  obtain ⟨g1, h⟩ := gdt h
  refine W_iald (q := 173) C sk_173 g1 dX12_hasText_12 ?_
  refine V_if_le C dX12_hasText_13 rfl (fun c2 => ?_) (fun c2 => ?_)
  · replace h := ifp c2 h
    refine V_iconst C dX12_hasText_20 kc_i_0 ?_
    exact V_zret C nb_0 X dX12_hasText_21 ⟨rip_1 h, rfl⟩
  · replace h := ifn c2 h
    refine V_iconst C dX12_hasText_16 kc_i_1 ?_
    refine V_goto C dX12_hasText_17 rfl ?_
    exact V_zret C nb_1 X dX12_hasText_21 ⟨rip_1 h, rfl⟩
theorem c_X12_hasText {ε : eT} {S : St} {v1 : Int32} {res : Int32} (h : f_X12_hasText S v1 = some res) : CI ε yX12_hasText cX12_hasText 2 (some .boolean) 1 [.ref (eA ε 172), .int v1] S (some (.int res)) S := CI_of (by decide) (Nat.le_of_ble_eq_true rfl) rfl (fun κ C X => v_X12_hasText_e C X h)
def f_X12_joined_226 (S : St) : Option Int32 :=
 some (1 : Int32)
set_option maxRecDepth 20000 in
theorem v_X12_joined_226 {ε : eT} {κ : kT} (C : Act ε κ cX12_joined 3 RX12 1) {S : St} {res : Int32} (X : RI ε κ (some .int) (some (.int res)) S) (h : f_X12_joined_226 S = some res) : V ε κ 3 226 [] [] (wsOf ε S) 0 0 := by
  unfold f_X12_joined_226 at h
  refine V_iconst C dX12_joined_226 kc_i_1 ?_
  refine V_goto C dX12_joined_227 rfl ?_
  exact V_iret C X dX12_joined_231 ⟨rip_1 h, rfl⟩
def f_X12_joined_163 (S : St) : Option Int32 :=
 some (0 : Int32)
set_option maxRecDepth 20000 in
theorem v_X12_joined_163 {ε : eT} {κ : kT} (C : Act ε κ cX12_joined 3 RX12 1) {S : St} {res : Int32} (X : RI ε κ (some .int) (some (.int res)) S) (h : f_X12_joined_163 S = some res) : V ε κ 3 163 [] [] (wsOf ε S) 0 0 := by
  unfold f_X12_joined_163 at h
  refine V_iconst C dX12_joined_163 kc_i_0 ?_
  refine V_goto C dX12_joined_164 rfl ?_
  exact V_iret C X dX12_joined_170 ⟨rip_1 h, rfl⟩
def f_X12_joined (S : St) (v0 : Int32) (v1 : Int32) (v2 : Int32) : Option Int32 :=
 (if v0 = 37 then
 (if v2 = 0 then
 f_X12_joined_163 S
 else
 (if v2 = (-1 : Int32) then
 f_X12_joined_163 S
 else
 (if v2 = 0 then none else
 some (v1 - v1 / v2 * v2))))
 else
 (if v0 = 38 then
 (if v1 = 0 then
 some (0 : Int32)
 else
 (if v2 = 0 then
 some (0 : Int32)
 else
 some (1 : Int32)))
 else
 (if v0 = 42 then
 some (v1 * v2)
 else
 (if v0 = 43 then
 some (v1 + v2)
 else
 (if v0 = 45 then
 some (v1 - v2)
 else
 (if v0 = 47 then
 (if v2 = 0 then
 some (0 : Int32)
 else
 (if v2 = (-1 : Int32) then
 some (-v1)
 else
 (if v2 = 0 then none else
 some (v1 / v2))))
 else
 (if v0 = 60 then
 (if v2 ≤ v1 then
 some (0 : Int32)
 else
 some (1 : Int32))
 else
 (if v0 = 61 then
 (if v1 = v2 then
 some (1 : Int32)
 else
 some (0 : Int32))
 else
 (if v0 = 62 then
 (if v1 ≤ v2 then
 some (0 : Int32)
 else
 some (1 : Int32))
 else
 (if v1 = 0 then
 (if v2 = 0 then
 some (0 : Int32)
 else
 f_X12_joined_226 S)
 else
 f_X12_joined_226 S))))))))))
set_option maxRecDepth 20000 in
theorem v_X12_joined_e {ε : eT} {κ : kT} (C : Act ε κ cX12_joined 3 RX12 1) {S : St} {res : Int32} (X : RI ε κ (some .int) (some (.int res)) S) {v0 : Int32} {v1 : Int32} {v2 : Int32} (h : f_X12_joined S v0 v1 v2 = some res) : V ε κ 3 0 [(0, .int v0), (1, .int v1), (2, .int v2)] [] (wsOf ε S) 0 0 := by
  unfold f_X12_joined at h
  refine V_iload_n C 0 dX12_joined_0 rfl rfl ?_
  by_cases c1 : v0 = 37
  · replace h := ifp c1 h
    refine V_table C rfl dX12_joined_1 (off := 153) (by rw [c1]; decide +kernel) (tgt := 154) rfl ?_
    refine V_iload_n C 2 dX12_joined_154 rfl rfl ?_
    refine V_if_eq C dX12_joined_155 rfl (fun c10 => ?_) (fun c10 => ?_)
    · replace h := ifp c10 h
      refine V_sub C [] rfl ?_
      exact v_X12_joined_163 C X h
    · replace h := ifn c10 h
      refine V_iload_n C 2 dX12_joined_158 rfl rfl ?_
      refine V_iconst C dX12_joined_159 kc_i_m1 ?_
      refine V_icmp_ne C dX12_joined_160 rfl (fun c11 => ?_) (fun c11 => ?_)
      · replace h := ifn c11 h
        refine V_iload_n C 1 dX12_joined_167 rfl rfl ?_
        refine V_iload_n C 2 dX12_joined_168 rfl rfl ?_
        obtain ⟨g12, h⟩ := gdf h
        refine V_irem C dX12_joined_169 g12 ?_
        exact V_iret C X dX12_joined_170 ⟨rip_1 h, rfl⟩
      · replace h := ifp c11 h
        refine V_sub C [] rfl ?_
        exact v_X12_joined_163 C X h
  · replace h := ifn c1 h
    by_cases c2 : v0 = 38
    · replace h := ifp c2 h
      refine V_table C rfl dX12_joined_1 (off := 203) (by rw [c2]; decide +kernel) (tgt := 204) rfl ?_
      refine V_iload_n C 1 dX12_joined_204 rfl rfl ?_
      refine V_if_eq C dX12_joined_205 rfl (fun c13 => ?_) (fun c13 => ?_)
      · replace h := ifp c13 h
        refine V_iconst C dX12_joined_216 kc_i_0 ?_
        exact V_iret C X dX12_joined_217 ⟨rip_1 h, rfl⟩
      · replace h := ifn c13 h
        refine V_iload_n C 2 dX12_joined_208 rfl rfl ?_
        refine V_if_eq C dX12_joined_209 rfl (fun c14 => ?_) (fun c14 => ?_)
        · replace h := ifp c14 h
          refine V_iconst C dX12_joined_216 kc_i_0 ?_
          exact V_iret C X dX12_joined_217 ⟨rip_1 h, rfl⟩
        · replace h := ifn c14 h
          refine V_iconst C dX12_joined_212 kc_i_1 ?_
          refine V_goto C dX12_joined_213 rfl ?_
          exact V_iret C X dX12_joined_217 ⟨rip_1 h, rfl⟩
    · replace h := ifn c2 h
      by_cases c3 : v0 = 42
      · replace h := ifp c3 h
        refine V_table C rfl dX12_joined_1 (off := 127) (by rw [c3]; decide +kernel) (tgt := 128) rfl ?_
        refine V_iload_n C 1 dX12_joined_128 rfl rfl ?_
        refine V_iload_n C 2 dX12_joined_129 rfl rfl ?_
        refine V_imul C dX12_joined_130 ?_
        exact V_iret C X dX12_joined_131 ⟨rip_1 h, rfl⟩
      · replace h := ifn c3 h
        by_cases c4 : v0 = 43
        · replace h := ifp c4 h
          refine V_table C rfl dX12_joined_1 (off := 119) (by rw [c4]; decide +kernel) (tgt := 120) rfl ?_
          refine V_iload_n C 1 dX12_joined_120 rfl rfl ?_
          refine V_iload_n C 2 dX12_joined_121 rfl rfl ?_
          refine V_iadd C dX12_joined_122 ?_
          exact V_iret C X dX12_joined_123 ⟨rip_1 h, rfl⟩
        · replace h := ifn c4 h
          by_cases c5 : v0 = 45
          · replace h := ifp c5 h
            refine V_table C rfl dX12_joined_1 (off := 123) (by rw [c5]; decide +kernel) (tgt := 124) rfl ?_
            refine V_iload_n C 1 dX12_joined_124 rfl rfl ?_
            refine V_iload_n C 2 dX12_joined_125 rfl rfl ?_
            refine V_isub C dX12_joined_126 ?_
            exact V_iret C X dX12_joined_127 ⟨rip_1 h, rfl⟩
          · replace h := ifn c5 h
            by_cases c6 : v0 = 47
            · replace h := ifp c6 h
              refine V_table C rfl dX12_joined_1 (off := 131) (by rw [c6]; decide +kernel) (tgt := 132) rfl ?_
              refine V_iload_n C 2 dX12_joined_132 rfl rfl ?_
              refine V_if_ne C dX12_joined_133 rfl (fun c15 => ?_) (fun c15 => ?_)
              · replace h := ifn c15 h
                refine V_iload_n C 2 dX12_joined_140 rfl rfl ?_
                refine V_iconst C dX12_joined_141 kc_i_m1 ?_
                refine V_icmp_ne C dX12_joined_142 rfl (fun c16 => ?_) (fun c16 => ?_)
                · replace h := ifn c16 h
                  refine V_iload_n C 1 dX12_joined_150 rfl rfl ?_
                  refine V_iload_n C 2 dX12_joined_151 rfl rfl ?_
                  obtain ⟨g17, h⟩ := gdf h
                  refine V_idiv C dX12_joined_152 g17 ?_
                  exact V_iret C X dX12_joined_153 ⟨rip_1 h, rfl⟩
                · replace h := ifp c16 h
                  refine V_iload_n C 1 dX12_joined_145 rfl rfl ?_
                  refine V_ineg C dX12_joined_146 ?_
                  refine V_goto C dX12_joined_147 rfl ?_
                  exact V_iret C X dX12_joined_153 ⟨rip_1 h, rfl⟩
              · replace h := ifp c15 h
                refine V_iconst C dX12_joined_136 kc_i_0 ?_
                refine V_goto C dX12_joined_137 rfl ?_
                exact V_iret C X dX12_joined_153 ⟨rip_1 h, rfl⟩
            · replace h := ifn c6 h
              by_cases c7 : v0 = 60
              · replace h := ifp c7 h
                refine V_table C rfl dX12_joined_1 (off := 170) (by rw [c7]; decide +kernel) (tgt := 171) rfl ?_
                refine V_iload_n C 1 dX12_joined_171 rfl rfl ?_
                refine V_iload_n C 2 dX12_joined_172 rfl rfl ?_
                refine V_icmp_ge C dX12_joined_173 rfl (fun c18 => ?_) (fun c18 => ?_)
                · replace h := ifp c18 h
                  refine V_iconst C dX12_joined_180 kc_i_0 ?_
                  exact V_iret C X dX12_joined_181 ⟨rip_1 h, rfl⟩
                · replace h := ifn c18 h
                  refine V_iconst C dX12_joined_176 kc_i_1 ?_
                  refine V_goto C dX12_joined_177 rfl ?_
                  exact V_iret C X dX12_joined_181 ⟨rip_1 h, rfl⟩
              · replace h := ifn c7 h
                by_cases c8 : v0 = 61
                · replace h := ifp c8 h
                  refine V_table C rfl dX12_joined_1 (off := 192) (by rw [c8]; decide +kernel) (tgt := 193) rfl ?_
                  refine V_iload_n C 1 dX12_joined_193 rfl rfl ?_
                  refine V_iload_n C 2 dX12_joined_194 rfl rfl ?_
                  refine V_icmp_ne C dX12_joined_195 rfl (fun c19 => ?_) (fun c19 => ?_)
                  · replace h := ifn c19 h
                    refine V_iconst C dX12_joined_202 kc_i_0 ?_
                    exact V_iret C X dX12_joined_203 ⟨rip_1 h, rfl⟩
                  · replace h := ifp c19 h
                    refine V_iconst C dX12_joined_198 kc_i_1 ?_
                    refine V_goto C dX12_joined_199 rfl ?_
                    exact V_iret C X dX12_joined_203 ⟨rip_1 h, rfl⟩
                · replace h := ifn c8 h
                  by_cases c9 : v0 = 62
                  · replace h := ifp c9 h
                    refine V_table C rfl dX12_joined_1 (off := 181) (by rw [c9]; decide +kernel) (tgt := 182) rfl ?_
                    refine V_iload_n C 1 dX12_joined_182 rfl rfl ?_
                    refine V_iload_n C 2 dX12_joined_183 rfl rfl ?_
                    refine V_icmp_le C dX12_joined_184 rfl (fun c20 => ?_) (fun c20 => ?_)
                    · replace h := ifp c20 h
                      refine V_iconst C dX12_joined_191 kc_i_0 ?_
                      exact V_iret C X dX12_joined_192 ⟨rip_1 h, rfl⟩
                    · replace h := ifn c20 h
                      refine V_iconst C dX12_joined_187 kc_i_1 ?_
                      refine V_goto C dX12_joined_188 rfl ?_
                      exact V_iret C X dX12_joined_192 ⟨rip_1 h, rfl⟩
                  · replace h := ifn c9 h
                    refine V_table C rfl dX12_joined_1 (swt_d [(37 : Int32), (38 : Int32), (42 : Int32), (43 : Int32), (45 : Int32), (47 : Int32), (60 : Int32), (61 : Int32), (62 : Int32)] (List.forall_mem_cons.mpr ⟨c1, (List.forall_mem_cons.mpr ⟨c2, (List.forall_mem_cons.mpr ⟨c3, (List.forall_mem_cons.mpr ⟨c4, (List.forall_mem_cons.mpr ⟨c5, (List.forall_mem_cons.mpr ⟨c6, (List.forall_mem_cons.mpr ⟨c7, (List.forall_mem_cons.mpr ⟨c8, (List.forall_mem_cons.mpr ⟨c9, (fun _ h => absurd h List.not_mem_nil)⟩)⟩)⟩)⟩)⟩)⟩)⟩)⟩)⟩) rfl (by decide +kernel)) (tgt := 218) rfl ?_
                    refine V_iload_n C 1 dX12_joined_218 rfl rfl ?_
                    refine V_if_ne C dX12_joined_219 rfl (fun c21 => ?_) (fun c21 => ?_)
                    · replace h := ifn c21 h
                      refine V_sub C [] rfl ?_
                      exact v_X12_joined_226 C X h
                    · replace h := ifp c21 h
                      refine V_iload_n C 2 dX12_joined_222 rfl rfl ?_
                      refine V_if_eq C dX12_joined_223 rfl (fun c22 => ?_) (fun c22 => ?_)
                      · replace h := ifp c22 h
                        refine V_iconst C dX12_joined_230 kc_i_0 ?_
                        exact V_iret C X dX12_joined_231 ⟨rip_1 h, rfl⟩
                      · replace h := ifn c22 h
                        refine V_sub C [] rfl ?_
                        exact v_X12_joined_226 C X h
theorem c_X12_joined {ε : eT} {S : St} {v0 : Int32} {v1 : Int32} {v2 : Int32} {res : Int32} (h : f_X12_joined S v0 v1 v2 = some res) : CI ε yX12_joined cX12_joined 3 (some .int) 1 [.int v0, .int v1, .int v2] S (some (.int res)) S := CI_of (by decide) (Nat.le_of_ble_eq_true rfl) rfl (fun κ C X => v_X12_joined_e C X h)
