def f_X12_worth_27 (S : St) : Option (Int32 × St) :=
 bnd2 (f_X12_error S (1 : Int32)) (fun a2 S3 =>
 some (a2, S3))
set_option maxRecDepth 20000 in
theorem v_X12_worth_27 {ε : eT} {κ : kT} (C : Act ε κ cX12_worth 6 RX12 3) {S : St} {res : (Int32 × St)} (X : RI ε κ (some .int) (some (.int res.1)) res.2) (h : f_X12_worth_27 S = some res) : V ε κ 6 27 [(0, .ref (eA ε 172))] [] (wsOf ε S) 0 0 := by
  unfold f_X12_worth_27 at h
  refine V_aload_n C 0 dX12_worth_27 rfl rfl ?_
  refine V_iconst C dX12_worth_28 kc_i_1 ?_
  obtain ⟨a2, S3, e1, h⟩ := bnd2_s h
  refine W_callvi C cf_X12_error (c_X12_error e1) q_ML_X12_60 (ws_X12 sk_172) rfl dX12_worth_29 (by decide) rfl rfl (Nat.le_of_ble_eq_true rfl) ?_
  exact V_iret C X dX12_worth_32 ⟨ri_1 h, ri_2 h⟩
def f_X12_worth (S : St) (v1 : Int32) (v2 : Int32) (v3 : Int32) : Option (Int32 × St) :=
 bnd (f_X12_isPerson S v1) (fun a2 =>
 (if a2 = 0 then
 f_X12_worth_27 S
 else
 bnd (f_X12_isThing S v2) (fun a5 =>
 (if a5 = 0 then
 f_X12_worth_27 S
 else
 bnd (f_X12_in S v3 (0 : Int32) (9999 : Int32)) (fun a8 =>
 (if a8 = 0 then
 f_X12_worth_27 S
 else
 (if inb (((110 : Int32) + ((12 : Int32) * v1)) + v2) 516 = true then
 (if inb (((110 : Int32) + ((12 : Int32) * v1)) + v2) 516 = true then
 some ((S.1 173 (((110 : Int32) + ((12 : Int32) * v1)) + v2).toNatClampNeg), (pt S 173 (((110 : Int32) + ((12 : Int32) * v1)) + v2).toNatClampNeg v3))
 else none)
 else none)))))))
set_option maxRecDepth 20000 in
theorem v_X12_worth_e {ε : eT} {κ : kT} (C : Act ε κ cX12_worth 6 RX12 3) {S : St} {res : (Int32 × St)} (X : RI ε κ (some .int) (some (.int res.1)) res.2) {v1 : Int32} {v2 : Int32} {v3 : Int32} (h : f_X12_worth S v1 v2 v3 = some res) : V ε κ 6 0 [(0, .ref (eA ε 172)), (1, .int v1), (2, .int v2), (3, .int v3)] [] (wsOf ε S) 0 0 := by
  unfold f_X12_worth at h
  refine V_aload_n C 0 dX12_worth_0 rfl rfl ?_
  refine V_iload_n C 1 dX12_worth_1 rfl rfl ?_
  obtain ⟨a2, e1, h⟩ := bnd_s h
  refine W_callvi C cf_X12_isPerson (c_X12_isPerson e1) q_ML_X12_76 (ws_X12 sk_172) rfl dX12_worth_2 (by decide) rfl rfl (Nat.le_of_ble_eq_true rfl) ?_
  refine V_if_eq C dX12_worth_5 rfl (fun c3 => ?_) (fun c3 => ?_)
  · replace h := ifp c3 h
    refine V_sub C [0] rfl ?_
    exact v_X12_worth_27 C X h
  · replace h := ifn c3 h
    refine V_aload_n C 0 dX12_worth_8 rfl rfl ?_
    refine V_iload_n C 2 dX12_worth_9 rfl rfl ?_
    obtain ⟨a5, e4, h⟩ := bnd_s h
    refine W_callvi C cf_X12_isThing (c_X12_isThing e4) q_ML_X12_92 (ws_X12 sk_172) rfl dX12_worth_10 (by decide) rfl rfl (Nat.le_of_ble_eq_true rfl) ?_
    refine V_if_eq C dX12_worth_13 rfl (fun c6 => ?_) (fun c6 => ?_)
    · replace h := ifp c6 h
      refine V_sub C [0] rfl ?_
      exact v_X12_worth_27 C X h
    · replace h := ifn c6 h
      refine V_iload_n C 3 dX12_worth_16 rfl rfl ?_
      refine V_iconst C dX12_worth_17 kc_i_0 ?_
      refine V_sipush C dX12_worth_18 kc_s_9999 ?_
      obtain ⟨a8, e7, h⟩ := bnd_s h
      refine W_callsi C cf_X12_in (c_X12_in e7) q_ML_X12_47 dX12_worth_21 (by decide) rfl rfl (Nat.le_of_ble_eq_true rfl) ?_
      refine V_if_ne C dX12_worth_24 rfl (fun c9 => ?_) (fun c9 => ?_)
      · replace h := ifn c9 h
        refine V_bipush C dX12_worth_33 kc_b_110 ?_
        refine V_bipush C dX12_worth_35 kc_b_12 ?_
        refine V_iload_n C 1 dX12_worth_37 rfl rfl ?_
        refine V_imul C dX12_worth_38 ?_
        refine V_iadd C dX12_worth_39 ?_
        refine V_iload_n C 2 dX12_worth_40 rfl rfl ?_
        refine V_iadd C dX12_worth_41 ?_
        refine V_istore (lv' := [(4, .int (((110 : Int32) + ((12 : Int32) * v1)) + v2)), (0, .ref (eA ε 172)), (1, .int v1), (2, .int v2), (3, .int v3)]) C dX12_worth_42 (by decide) rfl ?_
        refine V_aload_n C 1 dX12_worth_44 rfl rfl ?_
        refine G_X12_s (q := 172) C sk_172 q_FL_X12_7 dX12_worth_45 ?_
        refine V_iload C 0 dX12_worth_48 rfl ?_
        obtain ⟨g10, h⟩ := gdt h
        refine W_iald (q := 173) C sk_173 g10 dX12_worth_50 ?_
        refine V_istore (lv' := [(5, .int (S.1 173 (((110 : Int32) + ((12 : Int32) * v1)) + v2).toNatClampNeg)), (4, .int (((110 : Int32) + ((12 : Int32) * v1)) + v2)), (0, .ref (eA ε 172)), (1, .int v1), (2, .int v2), (3, .int v3)]) C dX12_worth_51 (by decide) rfl ?_
        refine V_aload_n C 2 dX12_worth_53 rfl rfl ?_
        refine G_X12_s (q := 172) C sk_172 q_FL_X12_7 dX12_worth_54 ?_
        refine V_iload C 1 dX12_worth_57 rfl ?_
        refine V_iload_n C 5 dX12_worth_59 rfl rfl ?_
        obtain ⟨g11, h⟩ := gdt h
        refine W_iast (q := 173) C sk_173 g11 dX12_worth_60 ?_
        refine V_iload C 0 dX12_worth_61 rfl ?_
        exact V_iret C X dX12_worth_63 ⟨ri_1 h, ri_2 h⟩
      · replace h := ifp c9 h
        refine V_sub C [0] rfl ?_
        exact v_X12_worth_27 C X h
theorem c_X12_worth {ε : eT} {S : St} {v1 : Int32} {v2 : Int32} {v3 : Int32} {res : (Int32 × St)} (h : f_X12_worth S v1 v2 v3 = some res) : CI ε yX12_worth cX12_worth 6 (some .int) 3 [.ref (eA ε 172), .int v1, .int v2, .int v3] S (some (.int res.1)) res.2 := CI_of (by decide) (Nat.le_of_ble_eq_true rfl) rfl (fun κ C X => v_X12_worth_e C X h)
def f_X12_worths_15 (N : Nat) (S : St) : Option (Int32 × St) :=
 bnd2 (f_X12_error S (1 : Int32)) (fun a2 S3 =>
 some (a2, S3))
set_option maxRecDepth 20000 in
theorem v_X12_worths_15 {ε : eT} {κ : kT} {N : Nat} (C : Act ε κ cX12_worths 4 RX12 3) {S : St} {res : (Int32 × St)} (X : RI ε κ (some .int) (some (.int res.1)) res.2) (h : f_X12_worths_15 N S = some res) : V ε κ 4 15 [(0, .ref (eA ε 172))] [] (wsOf ε S) 0 0 := by
  unfold f_X12_worths_15 at h
  refine V_aload_n C 0 dX12_worths_15 rfl rfl ?_
  refine V_iconst C dX12_worths_16 kc_i_1 ?_
  obtain ⟨a2, S3, e1, h⟩ := bnd2_s h
  refine W_callvi C cf_X12_error (c_X12_error e1) q_ML_X12_60 (ws_X12 sk_172) rfl dX12_worths_17 (by decide) rfl rfl (Nat.le_of_ble_eq_true rfl) ?_
  exact V_iret C X dX12_worths_20 ⟨ri_1 h, ri_2 h⟩
def f_X12_worths_35 (N : Nat) : Nat → St → Int32 → Int32 → Int32 → Option (Int32 × St)
  | 0, _, _, _, _ => none
  | n + 1, S, v1, v2, v3 =>
    (if inb v1 4 = true then
     (if (S.1 182 v1.toNatClampNeg) ≤ v3 then
     some (v3, S)
     else
     bnd (f_X12_isThing S v3) (fun a4 =>
     (if a4 = 0 then
     some (v3, S)
     else
     (if inb (((24 : Int32) * v1) + v3) 96 = true then
     bnd (f_X12_in S (S.1 183 (((24 : Int32) * v1) + v3).toNatClampNeg) (0 : Int32) (9999 : Int32)) (fun a8 =>
     (if a8 = 0 then
     some (v3, S)
     else
     (if inb (((24 : Int32) * v1) + v3) 96 = true then
     (if inb (((110 : Int32) + ((12 : Int32) * v2)) + v3) 516 = true then
     f_X12_worths_35 N n (pt S 173 (((110 : Int32) + ((12 : Int32) * v2)) + v3).toNatClampNeg (S.1 183 (((24 : Int32) * v1) + v3).toNatClampNeg)) v1 v2 (v3 + 1)
     else none)
     else none)))
     else none))))
     else none)
set_option maxRecDepth 20000 in
theorem v_X12_worths_35 {ε : eT} {κ : kT} {N : Nat} (C : Act ε κ cX12_worths 4 RX12 3) {res : (Int32 × St)} (X : RI ε κ (some .int) (some (.int res.1)) res.2) : ∀ (n : Nat) (S : St) (v1 : Int32) (v2 : Int32) (v3 : Int32) (h : f_X12_worths_35 N n S v1 v2 v3 = some res), V ε κ 4 35 [(0, .ref (eA ε 172)), (1, .int v1), (2, .int v2), (3, .int v3)] [] (wsOf ε S) 0 0 := by
  intro n
  induction n with
  | zero => intro S v1 v2 v3 h; cases h
  | succ n ih =>
    intro S v1 v2 v3 h
    rw [f_X12_worths_35] at h
    refine V_iload_n C 3 dX12_worths_35 rfl rfl ?_
    refine V_aload_n C 0 dX12_worths_36 rfl rfl ?_
    refine G_X12_sizes (q := 172) C sk_172 q_FL_X12_37 dX12_worths_37 ?_
    refine V_iload_n C 1 dX12_worths_40 rfl rfl ?_
    obtain ⟨g1, h⟩ := gdt h
    refine W_iald (q := 182) C sk_182 g1 dX12_worths_41 ?_
    refine V_icmp_ge C dX12_worths_42 rfl (fun c2 => ?_) (fun c2 => ?_)
    · replace h := ifp c2 h
      refine V_iload_n C 3 dX12_worths_105 rfl rfl ?_
      exact V_iret C X dX12_worths_106 ⟨ri_1 h, ri_2 h⟩
    · replace h := ifn c2 h
      refine V_aload_n C 0 dX12_worths_45 rfl rfl ?_
      refine V_iload_n C 3 dX12_worths_46 rfl rfl ?_
      obtain ⟨a4, e3, h⟩ := bnd_s h
      refine W_callvi C cf_X12_isThing (c_X12_isThing e3) q_ML_X12_92 (ws_X12 sk_172) rfl dX12_worths_47 (by decide) rfl rfl (Nat.le_of_ble_eq_true rfl) ?_
      refine V_if_eq C dX12_worths_50 rfl (fun c5 => ?_) (fun c5 => ?_)
      · replace h := ifp c5 h
        refine V_iload_n C 3 dX12_worths_105 rfl rfl ?_
        exact V_iret C X dX12_worths_106 ⟨ri_1 h, ri_2 h⟩
      · replace h := ifn c5 h
        refine V_aload_n C 0 dX12_worths_53 rfl rfl ?_
        refine G_X12_number (q := 172) C sk_172 q_FL_X12_40 dX12_worths_54 ?_
        refine V_bipush C dX12_worths_57 kc_b_24 ?_
        refine V_iload_n C 1 dX12_worths_59 rfl rfl ?_
        refine V_imul C dX12_worths_60 ?_
        refine V_iload_n C 3 dX12_worths_61 rfl rfl ?_
        refine V_iadd C dX12_worths_62 ?_
        obtain ⟨g6, h⟩ := gdt h
        refine W_iald (q := 183) C sk_183 g6 dX12_worths_63 ?_
        refine V_iconst C dX12_worths_64 kc_i_0 ?_
        refine V_sipush C dX12_worths_65 kc_s_9999 ?_
        obtain ⟨a8, e7, h⟩ := bnd_s h
        refine W_callsi C cf_X12_in (c_X12_in e7) q_ML_X12_47 dX12_worths_68 (by decide) rfl rfl (Nat.le_of_ble_eq_true rfl) ?_
        refine V_if_eq C dX12_worths_71 rfl (fun c9 => ?_) (fun c9 => ?_)
        · replace h := ifp c9 h
          refine V_iload_n C 3 dX12_worths_105 rfl rfl ?_
          exact V_iret C X dX12_worths_106 ⟨ri_1 h, ri_2 h⟩
        · replace h := ifn c9 h
          refine V_aload_n C 0 dX12_worths_74 rfl rfl ?_
          refine G_X12_s (q := 172) C sk_172 q_FL_X12_7 dX12_worths_75 ?_
          refine V_bipush C dX12_worths_78 kc_b_110 ?_
          refine V_bipush C dX12_worths_80 kc_b_12 ?_
          refine V_iload_n C 2 dX12_worths_82 rfl rfl ?_
          refine V_imul C dX12_worths_83 ?_
          refine V_iadd C dX12_worths_84 ?_
          refine V_iload_n C 3 dX12_worths_85 rfl rfl ?_
          refine V_iadd C dX12_worths_86 ?_
          refine V_aload_n C 0 dX12_worths_87 rfl rfl ?_
          refine G_X12_number (q := 172) C sk_172 q_FL_X12_40 dX12_worths_88 ?_
          refine V_bipush C dX12_worths_91 kc_b_24 ?_
          refine V_iload_n C 1 dX12_worths_93 rfl rfl ?_
          refine V_imul C dX12_worths_94 ?_
          refine V_iload_n C 3 dX12_worths_95 rfl rfl ?_
          refine V_iadd C dX12_worths_96 ?_
          obtain ⟨g10, h⟩ := gdt h
          refine W_iald (q := 183) C sk_183 g10 dX12_worths_97 ?_
          obtain ⟨g11, h⟩ := gdt h
          refine W_iast (q := 173) C sk_173 g11 dX12_worths_98 ?_
          refine V_iinc (v := (v3 + 1)) (lv' := [(3, .int (v3 + 1)), (0, .ref (eA ε 172)), (1, .int v1), (2, .int v2)]) C 3 dX12_worths_99 rfl (congrArg _ kc_i_1) (by decide) rfl ?_
          refine V_goto C dX12_worths_102 rfl ?_
          refine V_sub C [1, 2, 3, 0] rfl ?_
          exact ih _ _ _ _ h
def f_X12_worths (N : Nat) (S : St) (v1 : Int32) (v2 : Int32) : Option (Int32 × St) :=
 bnd (f_X12_isSheet S v1) (fun a2 =>
 (if a2 = 0 then
 f_X12_worths_15 N S
 else
 bnd (f_X12_isPerson S v2) (fun a5 =>
 (if a5 = 0 then
 f_X12_worths_15 N S
 else
 bnd2 (f_X12_missing S v1) (fun a8 S9 =>
 (if 0 ≤ a8 then
 f_X12_worths_35 N N S9 v1 v2 (0 : Int32)
 else
 some ((-1000000002 : Int32), S9)))))))
set_option maxRecDepth 20000 in
theorem v_X12_worths_e {ε : eT} {κ : kT} {N : Nat} (C : Act ε κ cX12_worths 4 RX12 3) {S : St} {res : (Int32 × St)} (X : RI ε κ (some .int) (some (.int res.1)) res.2) {v1 : Int32} {v2 : Int32} (h : f_X12_worths N S v1 v2 = some res) : V ε κ 4 0 [(0, .ref (eA ε 172)), (1, .int v1), (2, .int v2)] [] (wsOf ε S) 0 0 := by
  unfold f_X12_worths at h
  refine V_iload_n C 1 dX12_worths_0 rfl rfl ?_
  obtain ⟨a2, e1, h⟩ := bnd_s h
  refine W_callsi C cf_X12_isSheet (c_X12_isSheet e1) q_ML_X12_279 dX12_worths_1 (by decide) rfl rfl (Nat.le_of_ble_eq_true rfl) ?_
  refine V_if_eq C dX12_worths_4 rfl (fun c3 => ?_) (fun c3 => ?_)
  · replace h := ifp c3 h
    refine V_sub C [0] rfl ?_
    exact v_X12_worths_15 C X h
  · replace h := ifn c3 h
    refine V_aload_n C 0 dX12_worths_7 rfl rfl ?_
    refine V_iload_n C 2 dX12_worths_8 rfl rfl ?_
    obtain ⟨a5, e4, h⟩ := bnd_s h
    refine W_callvi C cf_X12_isPerson (c_X12_isPerson e4) q_ML_X12_76 (ws_X12 sk_172) rfl dX12_worths_9 (by decide) rfl rfl (Nat.le_of_ble_eq_true rfl) ?_
    refine V_if_ne C dX12_worths_12 rfl (fun c6 => ?_) (fun c6 => ?_)
    · replace h := ifn c6 h
      refine V_aload_n C 0 dX12_worths_21 rfl rfl ?_
      refine V_iload_n C 1 dX12_worths_22 rfl rfl ?_
      obtain ⟨a8, S9, e7, h⟩ := bnd2_s h
      refine W_callvi C cf_X12_missing (c_X12_missing e7) q_ML_X12_282 (ws_X12 sk_172) rfl dX12_worths_23 (by decide) rfl rfl (Nat.le_of_ble_eq_true rfl) ?_
      refine V_if_ge C dX12_worths_26 rfl (fun c10 => ?_) (fun c10 => ?_)
      · replace h := ifp c10 h
        refine V_iconst C dX12_worths_33 kc_i_0 ?_
        refine V_istore_n (lv' := [(3, .int (0 : Int32)), (0, .ref (eA ε 172)), (1, .int v1), (2, .int v2)]) C dX12_worths_34 rfl (by decide) rfl ?_
        refine V_sub C [1, 2, 3, 0] rfl ?_
        exact v_X12_worths_35 C X N _ _ _ _ h
      · replace h := ifn c10 h
        refine V_ldcw C q_K_X12_285 dX12_worths_29 ?_
        exact V_iret C X dX12_worths_32 ⟨ri_1 h, ri_2 h⟩
    · replace h := ifp c6 h
      refine V_sub C [0] rfl ?_
      exact v_X12_worths_15 C X h
theorem c_X12_worths {ε : eT} {N : Nat} {S : St} {v1 : Int32} {v2 : Int32} {res : (Int32 × St)} (h : f_X12_worths N S v1 v2 = some res) : CI ε yX12_worths cX12_worths 4 (some .int) 3 [.ref (eA ε 172), .int v1, .int v2] S (some (.int res.1)) res.2 := CI_of (by decide) (Nat.le_of_ble_eq_true rfl) rfl (fun κ C X => v_X12_worths_e C X h)
def f_X12_years (N : Nat) (S : St) (v1 : Int32) : Option (Int32 × St) :=
 bnd (f_X12_in S v1 (1 : Int32) (40 : Int32)) (fun a2 =>
 (if a2 = 0 then
 bnd2 (f_X12_error S (1 : Int32)) (fun a11 S12 =>
 some (a11, S12))
 else
 (if ((S.1 173 3) + v1) ≤ (9999 : Int32) then
 bnd (f_X12_go N S v1) (fun S6 =>
 some ((S6.1 173 4), S6))
 else
 bnd2 (f_X12_error S (3 : Int32)) (fun a8 S9 =>
 some (a8, S9)))))
set_option maxRecDepth 20000 in
theorem v_X12_years_e {ε : eT} {κ : kT} {N : Nat} (C : Act ε κ cX12_years 2 RX12 12) {S : St} {res : (Int32 × St)} (X : RI ε κ (some .int) (some (.int res.1)) res.2) {v1 : Int32} (h : f_X12_years N S v1 = some res) : V ε κ 2 0 [(0, .ref (eA ε 172)), (1, .int v1)] [] (wsOf ε S) 0 0 := by
  unfold f_X12_years at h
  refine V_iload_n C 1 dX12_years_0 rfl rfl ?_
  refine V_iconst C dX12_years_1 kc_i_1 ?_
  refine V_bipush C dX12_years_2 kc_b_40 ?_
  obtain ⟨a2, e1, h⟩ := bnd_s h
  refine W_callsi C cf_X12_in (c_X12_in e1) q_ML_X12_47 dX12_years_4 (by decide) rfl rfl (Nat.le_of_ble_eq_true rfl) ?_
  refine V_if_ne C dX12_years_7 rfl (fun c3 => ?_) (fun c3 => ?_)
  · replace h := ifn c3 h
    refine V_aload_n C 0 dX12_years_16 rfl rfl ?_
    refine G_X12_s (q := 172) C sk_172 q_FL_X12_7 dX12_years_17 ?_
    refine V_iconst C dX12_years_20 kc_i_3 ?_
    refine W_ialdc (q := 173) C sk_173 (j := 3) tn_3 (by decide) dX12_years_21 ?_
    refine V_iload_n C 1 dX12_years_22 rfl rfl ?_
    refine V_iadd C dX12_years_23 ?_
    refine V_sipush C dX12_years_24 kc_s_9999 ?_
    refine V_icmp_le C dX12_years_27 rfl (fun c4 => ?_) (fun c4 => ?_)
    · replace h := ifp c4 h
      refine V_aload_n C 0 dX12_years_36 rfl rfl ?_
      refine V_iload_n C 1 dX12_years_37 rfl rfl ?_
      obtain ⟨S6, e5, h⟩ := bnd_s h
      refine W_callvn C cf_X12_go (c_X12_go e5) q_ML_X12_204 (ws_X12 sk_172) rfl dX12_years_38 (by decide) rfl rfl (Nat.le_of_ble_eq_true rfl) ?_
      refine V_aload_n C 0 dX12_years_41 rfl rfl ?_
      refine G_X12_s (q := 172) C sk_172 q_FL_X12_7 dX12_years_42 ?_
      refine V_iconst C dX12_years_45 kc_i_4 ?_
      refine W_ialdc (q := 173) C sk_173 (j := 4) tn_4 (by decide) dX12_years_46 ?_
      exact V_iret C X dX12_years_47 ⟨ri_1 h, ri_2 h⟩
    · replace h := ifn c4 h
      refine V_aload_n C 0 dX12_years_30 rfl rfl ?_
      refine V_iconst C dX12_years_31 kc_i_3 ?_
      obtain ⟨a8, S9, e7, h⟩ := bnd2_s h
      refine W_callvi C cf_X12_error (c_X12_error e7) q_ML_X12_60 (ws_X12 sk_172) rfl dX12_years_32 (by decide) rfl rfl (Nat.le_of_ble_eq_true rfl) ?_
      exact V_iret C X dX12_years_35 ⟨ri_1 h, ri_2 h⟩
  · replace h := ifp c3 h
    refine V_aload_n C 0 dX12_years_10 rfl rfl ?_
    refine V_iconst C dX12_years_11 kc_i_1 ?_
    obtain ⟨a11, S12, e10, h⟩ := bnd2_s h
    refine W_callvi C cf_X12_error (c_X12_error e10) q_ML_X12_60 (ws_X12 sk_172) rfl dX12_years_12 (by decide) rfl rfl (Nat.le_of_ble_eq_true rfl) ?_
    exact V_iret C X dX12_years_15 ⟨ri_1 h, ri_2 h⟩
theorem c_X12_years {ε : eT} {N : Nat} {S : St} {v1 : Int32} {res : (Int32 × St)} (h : f_X12_years N S v1 = some res) : CI ε yX12_years cX12_years 2 (some .int) 12 [.ref (eA ε 172), .int v1] S (some (.int res.1)) res.2 := CI_of (by decide) (Nat.le_of_ble_eq_true rfl) rfl (fun κ C X => v_X12_years_e C X h)
