def f_X12_part_102 (N : Nat) (K34 : St → Int32 → Int32 → Int32 → Int32 → Option (Int32 × St)) (S : St) (v1 : Int32) (v2 : Int32) (v4 : Int32) (s0 : Int32) : Option (Int32 × St) :=
 K34 S v1 v2 s0 (v4 + 1)
set_option maxRecDepth 20000 in
theorem v_X12_part_102 {ε : eT} {κ : kT} {N : Nat} (C : Act ε κ cX12_part 6 RX12 12) {S : St} {res : (Int32 × St)} (X : RI ε κ (some .int) (some (.int res.1)) res.2) {K34 : St → Int32 → Int32 → Int32 → Int32 → Option (Int32 × St)} (hK34 : ∀ (S : St) (v1 : Int32) (v2 : Int32) (v3 : Int32) (v4 : Int32), K34 S v1 v2 v3 v4 = some res → V ε κ 6 34 [(0, .ref (eA ε 172)), (1, .int v1), (2, .int v2), (3, .int v3), (4, .int v4)] [] (wsOf ε S) 0 0) {v1 : Int32} {v2 : Int32} {v4 : Int32} {s0 : Int32} (h : f_X12_part_102 N K34 S v1 v2 v4 s0 = some res) : V ε κ 6 102 [(0, .ref (eA ε 172)), (1, .int v1), (2, .int v2), (4, .int v4)] [.int s0] (wsOf ε S) 0 0 := by
  unfold f_X12_part_102 at h
  refine V_istore_n (lv' := [(3, .int s0), (0, .ref (eA ε 172)), (1, .int v1), (2, .int v2), (4, .int v4)]) C dX12_part_102 rfl (by decide) rfl ?_
  refine V_iinc (v := (v4 + 1)) (lv' := [(4, .int (v4 + 1)), (3, .int s0), (0, .ref (eA ε 172)), (1, .int v1), (2, .int v2)]) C 4 dX12_part_103 rfl (congrArg _ kc_i_1) (by decide) rfl ?_
  refine V_goto C dX12_part_106 rfl ?_
  refine V_sub C [2, 3, 4, 1, 0] rfl ?_
  exact hK34 _ _ _ _ _ h
def f_X12_part_89 (N : Nat) (K34 : St → Int32 → Int32 → Int32 → Int32 → Option (Int32 × St)) (S : St) (v1 : Int32) (v3 : Int32) (v4 : Int32) (v5 : Int32) (s0 : Int32) : Option (Int32 × St) :=
 (if s0 = v4 then
 f_X12_part_102 N K34 S v1 s0 v4 v5
 else
 f_X12_part_102 N K34 S v1 s0 v4 v3)
set_option maxRecDepth 20000 in
theorem v_X12_part_89 {ε : eT} {κ : kT} {N : Nat} (C : Act ε κ cX12_part 6 RX12 12) {S : St} {res : (Int32 × St)} (X : RI ε κ (some .int) (some (.int res.1)) res.2) {K34 : St → Int32 → Int32 → Int32 → Int32 → Option (Int32 × St)} (hK34 : ∀ (S : St) (v1 : Int32) (v2 : Int32) (v3 : Int32) (v4 : Int32), K34 S v1 v2 v3 v4 = some res → V ε κ 6 34 [(0, .ref (eA ε 172)), (1, .int v1), (2, .int v2), (3, .int v3), (4, .int v4)] [] (wsOf ε S) 0 0) {v1 : Int32} {v3 : Int32} {v4 : Int32} {v5 : Int32} {s0 : Int32} (h : f_X12_part_89 N K34 S v1 v3 v4 v5 s0 = some res) : V ε κ 6 89 [(0, .ref (eA ε 172)), (1, .int v1), (3, .int v3), (4, .int v4), (5, .int v5)] [.int s0] (wsOf ε S) 0 0 := by
  unfold f_X12_part_89 at h
  refine V_istore_n (lv' := [(2, .int s0), (0, .ref (eA ε 172)), (1, .int v1), (3, .int v3), (4, .int v4), (5, .int v5)]) C dX12_part_89 rfl (by decide) rfl ?_
  refine V_iload_n C 0 dX12_part_90 rfl rfl ?_
  refine V_iload C 4 dX12_part_91 rfl ?_
  refine V_icmp_ne C dX12_part_93 rfl (fun c1 => ?_) (fun c1 => ?_)
  · replace h := ifn c1 h
    refine V_iload_n C 3 dX12_part_101 rfl rfl ?_
    refine V_sub C [1, 2, 0, 4] rfl ?_
    exact v_X12_part_102 C X hK34 h
  · replace h := ifp c1 h
    refine V_iload C 5 dX12_part_96 rfl ?_
    refine V_goto C dX12_part_98 rfl ?_
    refine V_sub C [1, 2, 0, 4] rfl ?_
    exact v_X12_part_102 C X hK34 h
def f_X12_part_83 (N : Nat) (K34 : St → Int32 → Int32 → Int32 → Int32 → Option (Int32 × St)) (S : St) (v1 : Int32) (v3 : Int32) (v4 : Int32) (v5 : Int32) : Option (Int32 × St) :=
 f_X12_part_89 N K34 S v1 v3 v4 v5 v4
set_option maxRecDepth 20000 in
theorem v_X12_part_83 {ε : eT} {κ : kT} {N : Nat} (C : Act ε κ cX12_part 6 RX12 12) {S : St} {res : (Int32 × St)} (X : RI ε κ (some .int) (some (.int res.1)) res.2) {K34 : St → Int32 → Int32 → Int32 → Int32 → Option (Int32 × St)} (hK34 : ∀ (S : St) (v1 : Int32) (v2 : Int32) (v3 : Int32) (v4 : Int32), K34 S v1 v2 v3 v4 = some res → V ε κ 6 34 [(0, .ref (eA ε 172)), (1, .int v1), (2, .int v2), (3, .int v3), (4, .int v4)] [] (wsOf ε S) 0 0) {v1 : Int32} {v3 : Int32} {v4 : Int32} {v5 : Int32} (h : f_X12_part_83 N K34 S v1 v3 v4 v5 = some res) : V ε κ 6 83 [(0, .ref (eA ε 172)), (1, .int v1), (3, .int v3), (4, .int v4), (5, .int v5)] [] (wsOf ε S) 0 0 := by
  unfold f_X12_part_83 at h
  refine V_iload C 3 dX12_part_83 rfl ?_
  refine V_goto C dX12_part_85 rfl ?_
  exact v_X12_part_89 C X hK34 h
def f_X12_part_34 (N : Nat) : Nat → St → Int32 → Int32 → Int32 → Int32 → Option (Int32 × St)
  | 0, _, _, _, _, _ => none
  | n + 1, S, v1, v2, v3, v4 =>
    (if (30 : Int32) < v4 then
     some (v2, S)
     else
     bnd (f_X12_go N (pt S 173 10 v4) v1) (fun S3 =>
     bnd (f_X12_townOf N S3 (0 : Int32)) (fun a5 =>
     bnd (f_X12_lay N S3 175 173) (fun S7 =>
     (if v2 < 0 then
     f_X12_part_83 N (f_X12_part_34 N n) S7 v1 v3 v4 a5
     else
     (if a5 ≤ v3 then
     f_X12_part_89 N (f_X12_part_34 N n) S7 v1 v3 v4 a5 v2
     else
     f_X12_part_83 N (f_X12_part_34 N n) S7 v1 v3 v4 a5))))))
set_option maxRecDepth 20000 in
theorem v_X12_part_34 {ε : eT} {κ : kT} {N : Nat} (C : Act ε κ cX12_part 6 RX12 12) {res : (Int32 × St)} (X : RI ε κ (some .int) (some (.int res.1)) res.2) : ∀ (n : Nat) (S : St) (v1 : Int32) (v2 : Int32) (v3 : Int32) (v4 : Int32) (h : f_X12_part_34 N n S v1 v2 v3 v4 = some res), V ε κ 6 34 [(0, .ref (eA ε 172)), (1, .int v1), (2, .int v2), (3, .int v3), (4, .int v4)] [] (wsOf ε S) 0 0 := by
  intro n
  induction n with
  | zero => intro S v1 v2 v3 v4 h; cases h
  | succ n ih =>
    intro S v1 v2 v3 v4 h
    rw [f_X12_part_34] at h
    refine V_iload C 4 dX12_part_34 rfl ?_
    refine V_bipush C dX12_part_36 kc_b_30 ?_
    refine V_icmp_gt C dX12_part_38 rfl (fun c1 => ?_) (fun c1 => ?_)
    · replace h := ifp c1 h
      refine V_iload_n C 2 dX12_part_109 rfl rfl ?_
      exact V_iret C X dX12_part_110 ⟨ri_1 h, ri_2 h⟩
    · replace h := ifn c1 h
      refine V_aload_n C 0 dX12_part_41 rfl rfl ?_
      refine G_X12_s (q := 172) C sk_172 q_FL_X12_7 dX12_part_42 ?_
      refine V_bipush C dX12_part_45 kc_b_10 ?_
      refine V_iload C 4 dX12_part_47 rfl ?_
      refine W_iastc (q := 173) C sk_173 (j := 10) tn_10 (by decide) dX12_part_49 ?_
      refine V_aload_n C 0 dX12_part_50 rfl rfl ?_
      refine V_iload_n C 1 dX12_part_51 rfl rfl ?_
      obtain ⟨S3, e2, h⟩ := bnd_s h
      refine W_callvn C cf_X12_go (c_X12_go e2) q_ML_X12_204 (ws_X12 sk_172) rfl dX12_part_52 (by decide) rfl rfl (Nat.le_of_ble_eq_true rfl) ?_
      refine V_aload_n C 0 dX12_part_55 rfl rfl ?_
      refine V_iconst C dX12_part_56 kc_i_0 ?_
      obtain ⟨a5, e4, h⟩ := bnd_s h
      refine W_callvi C cf_X12_townOf (c_X12_townOf e4) q_ML_X12_238 (ws_X12 sk_172) rfl dX12_part_57 (by decide) rfl rfl (Nat.le_of_ble_eq_true rfl) ?_
      refine V_istore (lv' := [(5, .int a5), (0, .ref (eA ε 172)), (1, .int v1), (2, .int v2), (3, .int v3), (4, .int v4)]) C dX12_part_60 (by decide) rfl ?_
      refine V_aload_n C 1 dX12_part_62 rfl rfl ?_
      refine G_X12_put (q := 172) C sk_172 q_FL_X12_16 dX12_part_63 ?_
      refine V_aload_n C 1 dX12_part_66 rfl rfl ?_
      refine G_X12_s (q := 172) C sk_172 q_FL_X12_7 dX12_part_67 ?_
      obtain ⟨S7, e6, h⟩ := bnd_s h
      refine W_callsn C cf_X12_lay (c_X12_lay sk_175 sk_173 e6) q_ML_X12_241 dX12_part_70 (by decide) rfl rfl (Nat.le_of_ble_eq_true rfl) ?_
      refine V_iload_n C 3 dX12_part_73 rfl rfl ?_
      refine V_if_lt C dX12_part_74 rfl (fun c8 => ?_) (fun c8 => ?_)
      · replace h := ifp c8 h
        refine V_sub C [1, 2, 4, 5, 0] rfl ?_
        exact v_X12_part_83 C X ih h
      · replace h := ifn c8 h
        refine V_iload C 0 dX12_part_77 rfl ?_
        refine V_iload_n C 4 dX12_part_79 rfl rfl ?_
        refine V_icmp_le C dX12_part_80 rfl (fun c9 => ?_) (fun c9 => ?_)
        · replace h := ifp c9 h
          refine V_iload_n C 3 dX12_part_88 rfl rfl ?_
          refine V_sub C [1, 2, 4, 5, 0] rfl ?_
          exact v_X12_part_89 C X ih h
        · replace h := ifn c9 h
          refine V_sub C [1, 2, 4, 5, 0] rfl ?_
          exact v_X12_part_83 C X ih h
def f_X12_part (N : Nat) (S : St) (v1 : Int32) : Option (Int32 × St) :=
 bnd (f_X12_in S v1 (0 : Int32) (40 : Int32)) (fun a2 =>
 (if a2 = 0 then
 bnd2 (f_X12_error S (1 : Int32)) (fun a7 S8 =>
 some (a7, S8))
 else
 bnd (f_X12_lay N S 173 175) (fun S5 =>
 f_X12_part_34 N N S5 v1 (-1 : Int32) (0 : Int32) (0 : Int32))))
set_option maxRecDepth 20000 in
theorem v_X12_part_e {ε : eT} {κ : kT} {N : Nat} (C : Act ε κ cX12_part 6 RX12 12) {S : St} {res : (Int32 × St)} (X : RI ε κ (some .int) (some (.int res.1)) res.2) {v1 : Int32} (h : f_X12_part N S v1 = some res) : V ε κ 6 0 [(0, .ref (eA ε 172)), (1, .int v1)] [] (wsOf ε S) 0 0 := by
  unfold f_X12_part at h
  refine V_iload_n C 1 dX12_part_0 rfl rfl ?_
  refine V_iconst C dX12_part_1 kc_i_0 ?_
  refine V_bipush C dX12_part_2 kc_b_40 ?_
  obtain ⟨a2, e1, h⟩ := bnd_s h
  refine W_callsi C cf_X12_in (c_X12_in e1) q_ML_X12_47 dX12_part_4 (by decide) rfl rfl (Nat.le_of_ble_eq_true rfl) ?_
  refine V_if_ne C dX12_part_7 rfl (fun c3 => ?_) (fun c3 => ?_)
  · replace h := ifn c3 h
    refine V_aload_n C 0 dX12_part_16 rfl rfl ?_
    refine G_X12_s (q := 172) C sk_172 q_FL_X12_7 dX12_part_17 ?_
    refine V_aload_n C 0 dX12_part_20 rfl rfl ?_
    refine G_X12_put (q := 172) C sk_172 q_FL_X12_16 dX12_part_21 ?_
    obtain ⟨S5, e4, h⟩ := bnd_s h
    refine W_callsn C cf_X12_lay (c_X12_lay sk_173 sk_175 e4) q_ML_X12_241 dX12_part_24 (by decide) rfl rfl (Nat.le_of_ble_eq_true rfl) ?_
    refine V_iconst C dX12_part_27 kc_i_m1 ?_
    refine V_istore_n (lv' := [(2, .int (-1 : Int32)), (0, .ref (eA ε 172)), (1, .int v1)]) C dX12_part_28 rfl (by decide) rfl ?_
    refine V_iconst C dX12_part_29 kc_i_0 ?_
    refine V_istore_n (lv' := [(3, .int (0 : Int32)), (2, .int (-1 : Int32)), (0, .ref (eA ε 172)), (1, .int v1)]) C dX12_part_30 rfl (by decide) rfl ?_
    refine V_iconst C dX12_part_31 kc_i_0 ?_
    refine V_istore (lv' := [(4, .int (0 : Int32)), (3, .int (0 : Int32)), (2, .int (-1 : Int32)), (0, .ref (eA ε 172)), (1, .int v1)]) C dX12_part_32 (by decide) rfl ?_
    refine V_sub C [3, 4, 2, 1, 0] rfl ?_
    exact v_X12_part_34 C X N _ _ _ _ _ h
  · replace h := ifp c3 h
    refine V_aload_n C 0 dX12_part_10 rfl rfl ?_
    refine V_iconst C dX12_part_11 kc_i_1 ?_
    obtain ⟨a7, S8, e6, h⟩ := bnd2_s h
    refine W_callvi C cf_X12_error (c_X12_error e6) q_ML_X12_60 (ws_X12 sk_172) rfl dX12_part_12 (by decide) rfl rfl (Nat.le_of_ble_eq_true rfl) ?_
    exact V_iret C X dX12_part_15 ⟨ri_1 h, ri_2 h⟩
theorem c_X12_part {ε : eT} {N : Nat} {S : St} {v1 : Int32} {res : (Int32 × St)} (h : f_X12_part N S v1 = some res) : CI ε yX12_part cX12_part 6 (some .int) 12 [.ref (eA ε 172), .int v1] S (some (.int res.1)) res.2 := CI_of (by decide) (Nat.le_of_ble_eq_true rfl) rfl (fun κ C X => v_X12_part_e C X h)
def f_X12_person_27 (S : St) : Option (Int32 × St) :=
 bnd2 (f_X12_error S (1 : Int32)) (fun a2 S3 =>
 some (a2, S3))
set_option maxRecDepth 20000 in
theorem v_X12_person_27 {ε : eT} {κ : kT} (C : Act ε κ cX12_person 5 RX12 2) {S : St} {res : (Int32 × St)} (X : RI ε κ (some .int) (some (.int res.1)) res.2) (h : f_X12_person_27 S = some res) : V ε κ 5 27 [(0, .ref (eA ε 172))] [] (wsOf ε S) 0 0 := by
  unfold f_X12_person_27 at h
  refine V_aload_n C 0 dX12_person_27 rfl rfl ?_
  refine V_iconst C dX12_person_28 kc_i_1 ?_
  obtain ⟨a2, S3, e1, h⟩ := bnd2_s h
  refine W_callvi C cf_X12_error (c_X12_error e1) q_ML_X12_60 (ws_X12 sk_172) rfl dX12_person_29 (by decide) rfl rfl (Nat.le_of_ble_eq_true rfl) ?_
  exact V_iret C X dX12_person_32 ⟨ri_1 h, ri_2 h⟩
def f_X12_person (S : St) (v1 : Int32) (v2 : Int32) (v3 : Int32) : Option (Int32 × St) :=
 bnd (f_X12_in S v1 (0 : Int32) (6 : Int32)) (fun a2 =>
 (if a2 = 0 then
 f_X12_person_27 S
 else
 bnd (f_X12_in S v2 (0 : Int32) (999999 : Int32)) (fun a5 =>
 (if a5 = 0 then
 f_X12_person_27 S
 else
 bnd (f_X12_isPart S v3) (fun a8 =>
 (if a8 = 0 then
 f_X12_person_27 S
 else
 (if (S.1 173 0) = (6 : Int32) then
 bnd2 (f_X12_error S (4 : Int32)) (fun a16 S17 =>
 some (a16, S17))
 else
 (if inb (((20 : Int32) + ((4 : Int32) * (S.1 173 0))) + (0 : Int32)) 516 = true then
 (if inb (((20 : Int32) + ((4 : Int32) * (S.1 173 0))) + (1 : Int32)) 516 = true then
 (if inb (((20 : Int32) + ((4 : Int32) * (S.1 173 0))) + (2 : Int32)) 516 = true then
 (if inb (((20 : Int32) + ((4 : Int32) * (S.1 173 0))) + (3 : Int32)) 516 = true then
 some ((((pt (pt (pt (pt (pt S 173 (((20 : Int32) + ((4 : Int32) * (S.1 173 0))) + (0 : Int32)).toNatClampNeg v1) 173 (((20 : Int32) + ((4 : Int32) * (S.1 173 0))) + (1 : Int32)).toNatClampNeg v2) 173 (((20 : Int32) + ((4 : Int32) * (S.1 173 0))) + (2 : Int32)).toNatClampNeg (v3 / (10 : Int32))) 173 (((20 : Int32) + ((4 : Int32) * (S.1 173 0))) + (3 : Int32)).toNatClampNeg (v3 - v3 / (10 : Int32) * (10 : Int32))) 173 0 (((pt (pt (pt (pt S 173 (((20 : Int32) + ((4 : Int32) * (S.1 173 0))) + (0 : Int32)).toNatClampNeg v1) 173 (((20 : Int32) + ((4 : Int32) * (S.1 173 0))) + (1 : Int32)).toNatClampNeg v2) 173 (((20 : Int32) + ((4 : Int32) * (S.1 173 0))) + (2 : Int32)).toNatClampNeg (v3 / (10 : Int32))) 173 (((20 : Int32) + ((4 : Int32) * (S.1 173 0))) + (3 : Int32)).toNatClampNeg (v3 - v3 / (10 : Int32) * (10 : Int32))).1 173 0) + (1 : Int32))).1 173 0) - (1 : Int32)), (pt (pt (pt (pt (pt S 173 (((20 : Int32) + ((4 : Int32) * (S.1 173 0))) + (0 : Int32)).toNatClampNeg v1) 173 (((20 : Int32) + ((4 : Int32) * (S.1 173 0))) + (1 : Int32)).toNatClampNeg v2) 173 (((20 : Int32) + ((4 : Int32) * (S.1 173 0))) + (2 : Int32)).toNatClampNeg (v3 / (10 : Int32))) 173 (((20 : Int32) + ((4 : Int32) * (S.1 173 0))) + (3 : Int32)).toNatClampNeg (v3 - v3 / (10 : Int32) * (10 : Int32))) 173 0 (((pt (pt (pt (pt S 173 (((20 : Int32) + ((4 : Int32) * (S.1 173 0))) + (0 : Int32)).toNatClampNeg v1) 173 (((20 : Int32) + ((4 : Int32) * (S.1 173 0))) + (1 : Int32)).toNatClampNeg v2) 173 (((20 : Int32) + ((4 : Int32) * (S.1 173 0))) + (2 : Int32)).toNatClampNeg (v3 / (10 : Int32))) 173 (((20 : Int32) + ((4 : Int32) * (S.1 173 0))) + (3 : Int32)).toNatClampNeg (v3 - v3 / (10 : Int32) * (10 : Int32))).1 173 0) + (1 : Int32))))
 else none)
 else none)
 else none)
 else none))))))))
set_option maxRecDepth 20000 in
theorem v_X12_person_e {ε : eT} {κ : kT} (C : Act ε κ cX12_person 5 RX12 2) {S : St} {res : (Int32 × St)} (X : RI ε κ (some .int) (some (.int res.1)) res.2) {v1 : Int32} {v2 : Int32} {v3 : Int32} (h : f_X12_person S v1 v2 v3 = some res) : V ε κ 5 0 [(0, .ref (eA ε 172)), (1, .int v1), (2, .int v2), (3, .int v3)] [] (wsOf ε S) 0 0 := by
  unfold f_X12_person at h
  refine V_iload_n C 1 dX12_person_0 rfl rfl ?_
  refine V_iconst C dX12_person_1 kc_i_0 ?_
  refine V_bipush C dX12_person_2 kc_b_6 ?_
  obtain ⟨a2, e1, h⟩ := bnd_s h
  refine W_callsi C cf_X12_in (c_X12_in e1) q_ML_X12_47 dX12_person_4 (by decide) rfl rfl (Nat.le_of_ble_eq_true rfl) ?_
  refine V_if_eq C dX12_person_7 rfl (fun c3 => ?_) (fun c3 => ?_)
  · replace h := ifp c3 h
    refine V_sub C [0] rfl ?_
    exact v_X12_person_27 C X h
  · replace h := ifn c3 h
    refine V_iload_n C 2 dX12_person_10 rfl rfl ?_
    refine V_iconst C dX12_person_11 kc_i_0 ?_
    refine V_ldc C q_K_X12_55 dX12_person_12 ?_
    obtain ⟨a5, e4, h⟩ := bnd_s h
    refine W_callsi C cf_X12_in (c_X12_in e4) q_ML_X12_47 dX12_person_14 (by decide) rfl rfl (Nat.le_of_ble_eq_true rfl) ?_
    refine V_if_eq C dX12_person_17 rfl (fun c6 => ?_) (fun c6 => ?_)
    · replace h := ifp c6 h
      refine V_sub C [0] rfl ?_
      exact v_X12_person_27 C X h
    · replace h := ifn c6 h
      refine V_iload_n C 3 dX12_person_20 rfl rfl ?_
      obtain ⟨a8, e7, h⟩ := bnd_s h
      refine W_callsi C cf_X12_isPart (c_X12_isPart e7) q_ML_X12_56 dX12_person_21 (by decide) rfl rfl (Nat.le_of_ble_eq_true rfl) ?_
      refine V_if_ne C dX12_person_24 rfl (fun c9 => ?_) (fun c9 => ?_)
      · replace h := ifn c9 h
        refine V_aload_n C 0 dX12_person_33 rfl rfl ?_
        refine G_X12_s (q := 172) C sk_172 q_FL_X12_7 dX12_person_34 ?_
        refine V_iconst C dX12_person_37 kc_i_0 ?_
        refine W_ialdc (q := 173) C sk_173 (j := 0) tn_0 (by decide) dX12_person_38 ?_
        refine V_bipush C dX12_person_39 kc_b_6 ?_
        refine V_icmp_ne C dX12_person_41 rfl (fun c10 => ?_) (fun c10 => ?_)
        · replace h := ifn c10 h
          refine V_bipush C dX12_person_50 kc_b_20 ?_
          refine V_iconst C dX12_person_52 kc_i_4 ?_
          refine V_aload_n C 0 dX12_person_53 rfl rfl ?_
          refine G_X12_s (q := 172) C sk_172 q_FL_X12_7 dX12_person_54 ?_
          refine V_iconst C dX12_person_57 kc_i_0 ?_
          refine W_ialdc (q := 173) C sk_173 (j := 0) tn_0 (by decide) dX12_person_58 ?_
          refine V_imul C dX12_person_59 ?_
          refine V_iadd C dX12_person_60 ?_
          refine V_istore (lv' := [(4, .int ((20 : Int32) + ((4 : Int32) * (S.1 173 0)))), (0, .ref (eA ε 172)), (1, .int v1), (2, .int v2), (3, .int v3)]) C dX12_person_61 (by decide) rfl ?_
          refine V_aload_n C 1 dX12_person_63 rfl rfl ?_
          refine G_X12_s (q := 172) C sk_172 q_FL_X12_7 dX12_person_64 ?_
          refine V_iload C 0 dX12_person_67 rfl ?_
          refine V_iconst C dX12_person_69 kc_i_0 ?_
          refine V_iadd C dX12_person_70 ?_
          refine V_iload_n C 2 dX12_person_71 rfl rfl ?_
          obtain ⟨g11, h⟩ := gdt h
          refine W_iast (q := 173) C sk_173 g11 dX12_person_72 ?_
          refine V_aload_n C 1 dX12_person_73 rfl rfl ?_
          refine G_X12_s (q := 172) C sk_172 q_FL_X12_7 dX12_person_74 ?_
          refine V_iload C 0 dX12_person_77 rfl ?_
          refine V_iconst C dX12_person_79 kc_i_1 ?_
          refine V_iadd C dX12_person_80 ?_
          refine V_iload_n C 3 dX12_person_81 rfl rfl ?_
          obtain ⟨g12, h⟩ := gdt h
          refine W_iast (q := 173) C sk_173 g12 dX12_person_82 ?_
          refine V_aload_n C 1 dX12_person_83 rfl rfl ?_
          refine G_X12_s (q := 172) C sk_172 q_FL_X12_7 dX12_person_84 ?_
          refine V_iload C 0 dX12_person_87 rfl ?_
          refine V_iconst C dX12_person_89 kc_i_2 ?_
          refine V_iadd C dX12_person_90 ?_
          refine V_iload_n C 4 dX12_person_91 rfl rfl ?_
          refine V_bipush C dX12_person_92 kc_b_10 ?_
          refine V_idiv C dX12_person_94 (by decide) ?_
          obtain ⟨g13, h⟩ := gdt h
          refine W_iast (q := 173) C sk_173 g13 dX12_person_95 ?_
          refine V_aload_n C 1 dX12_person_96 rfl rfl ?_
          refine G_X12_s (q := 172) C sk_172 q_FL_X12_7 dX12_person_97 ?_
          refine V_iload C 0 dX12_person_100 rfl ?_
          refine V_iconst C dX12_person_102 kc_i_3 ?_
          refine V_iadd C dX12_person_103 ?_
          refine V_iload_n C 4 dX12_person_104 rfl rfl ?_
          refine V_bipush C dX12_person_105 kc_b_10 ?_
          refine V_irem C dX12_person_107 (by decide) ?_
          obtain ⟨g14, h⟩ := gdt h
          refine W_iast (q := 173) C sk_173 g14 dX12_person_108 ?_
          refine V_aload_n C 1 dX12_person_109 rfl rfl ?_
          refine G_X12_s (q := 172) C sk_172 q_FL_X12_7 dX12_person_110 ?_
          refine V_iconst C dX12_person_113 kc_i_0 ?_
          refine V_dup2 C dX12_person_114 rfl rfl ?_
          refine W_ialdc (q := 173) C sk_173 (j := 0) tn_0 (by decide) dX12_person_115 ?_
          refine V_iconst C dX12_person_116 kc_i_1 ?_
          refine V_iadd C dX12_person_117 ?_
          refine W_iastc (q := 173) C sk_173 (j := 0) tn_0 (by decide) dX12_person_118 ?_
          refine V_aload_n C 1 dX12_person_119 rfl rfl ?_
          refine G_X12_s (q := 172) C sk_172 q_FL_X12_7 dX12_person_120 ?_
          refine V_iconst C dX12_person_123 kc_i_0 ?_
          refine W_ialdc (q := 173) C sk_173 (j := 0) tn_0 (by decide) dX12_person_124 ?_
          refine V_iconst C dX12_person_125 kc_i_1 ?_
          refine V_isub C dX12_person_126 ?_
          exact V_iret C X dX12_person_127 ⟨ri_1 h, ri_2 h⟩
        · replace h := ifp c10 h
          refine V_aload_n C 0 dX12_person_44 rfl rfl ?_
          refine V_iconst C dX12_person_45 kc_i_4 ?_
          obtain ⟨a16, S17, e15, h⟩ := bnd2_s h
          refine W_callvi C cf_X12_error (c_X12_error e15) q_ML_X12_60 (ws_X12 sk_172) rfl dX12_person_46 (by decide) rfl rfl (Nat.le_of_ble_eq_true rfl) ?_
          exact V_iret C X dX12_person_49 ⟨ri_1 h, ri_2 h⟩
      · replace h := ifp c9 h
        refine V_sub C [0] rfl ?_
        exact v_X12_person_27 C X h
theorem c_X12_person {ε : eT} {S : St} {v1 : Int32} {v2 : Int32} {v3 : Int32} {res : (Int32 × St)} (h : f_X12_person S v1 v2 v3 = some res) : CI ε yX12_person cX12_person 5 (some .int) 2 [.ref (eA ε 172), .int v1, .int v2, .int v3] S (some (.int res.1)) res.2 := CI_of (by decide) (Nat.le_of_ble_eq_true rfl) rfl (fun κ C X => v_X12_person_e C X h)
def f_X12_personIs_18 (N : Nat) (S : St) : Option (Int32 × St) :=
 bnd2 (f_X12_error S (1 : Int32)) (fun a2 S3 =>
 some (a2, S3))
set_option maxRecDepth 20000 in
theorem v_X12_personIs_18 {ε : eT} {κ : kT} {N : Nat} (C : Act ε κ cX12_personIs 3 RX12 5) {S : St} {res : (Int32 × St)} (X : RI ε κ (some .int) (some (.int res.1)) res.2) (h : f_X12_personIs_18 N S = some res) : V ε κ 3 18 [(0, .ref (eA ε 172))] [] (wsOf ε S) 0 0 := by
  unfold f_X12_personIs_18 at h
  refine V_aload_n C 0 dX12_personIs_18 rfl rfl ?_
  refine V_iconst C dX12_personIs_19 kc_i_1 ?_
  obtain ⟨a2, S3, e1, h⟩ := bnd2_s h
  refine W_callvi C cf_X12_error (c_X12_error e1) q_ML_X12_60 (ws_X12 sk_172) rfl dX12_personIs_20 (by decide) rfl rfl (Nat.le_of_ble_eq_true rfl) ?_
  exact V_iret C X dX12_personIs_23 ⟨ri_1 h, ri_2 h⟩
def f_X12_personIs (N : Nat) (S : St) (v1 : Int32) (v2 : Int32) : Option (Int32 × St) :=
 bnd (f_X12_isPerson S v1) (fun a2 =>
 (if a2 = 0 then
 f_X12_personIs_18 N S
 else
 bnd (f_X12_in S v2 (0 : Int32) (6 : Int32)) (fun a5 =>
 (if a5 = 0 then
 f_X12_personIs_18 N S
 else
 (if v2 = 0 then
 bnd (f_X12_who S v1 (0 : Int32)) (fun a12 =>
 some (a12, S))
 else
 (if v2 = 1 then
 bnd (f_X12_who S v1 (1 : Int32)) (fun a14 =>
 some (a14, S))
 else
 (if v2 = 2 then
 bnd (f_X12_who S v1 (2 : Int32)) (fun a16 =>
 bnd (f_X12_who S v1 (3 : Int32)) (fun a18 =>
 some ((((10 : Int32) * a16) + a18), S)))
 else
 (if v2 = 5 then
 bnd (f_X12_lacks N S v1) (fun a20 =>
 some (a20, S))
 else
 bnd (f_X12_owns N S v1 v2) (fun a22 =>
 some (a22, S))))))))))
set_option maxRecDepth 20000 in
theorem v_X12_personIs_e {ε : eT} {κ : kT} {N : Nat} (C : Act ε κ cX12_personIs 3 RX12 5) {S : St} {res : (Int32 × St)} (X : RI ε κ (some .int) (some (.int res.1)) res.2) {v1 : Int32} {v2 : Int32} (h : f_X12_personIs N S v1 v2 = some res) : V ε κ 3 0 [(0, .ref (eA ε 172)), (1, .int v1), (2, .int v2)] [] (wsOf ε S) 0 0 := by
  unfold f_X12_personIs at h
  refine V_aload_n C 0 dX12_personIs_0 rfl rfl ?_
  refine V_iload_n C 1 dX12_personIs_1 rfl rfl ?_
  obtain ⟨a2, e1, h⟩ := bnd_s h
  refine W_callvi C cf_X12_isPerson (c_X12_isPerson e1) q_ML_X12_76 (ws_X12 sk_172) rfl dX12_personIs_2 (by decide) rfl rfl (Nat.le_of_ble_eq_true rfl) ?_
  refine V_if_eq C dX12_personIs_5 rfl (fun c3 => ?_) (fun c3 => ?_)
  · replace h := ifp c3 h
    refine V_sub C [0] rfl ?_
    exact v_X12_personIs_18 C X h
  · replace h := ifn c3 h
    refine V_iload_n C 2 dX12_personIs_8 rfl rfl ?_
    refine V_iconst C dX12_personIs_9 kc_i_0 ?_
    refine V_bipush C dX12_personIs_10 kc_b_6 ?_
    obtain ⟨a5, e4, h⟩ := bnd_s h
    refine W_callsi C cf_X12_in (c_X12_in e4) q_ML_X12_47 dX12_personIs_12 (by decide) rfl rfl (Nat.le_of_ble_eq_true rfl) ?_
    refine V_if_ne C dX12_personIs_15 rfl (fun c6 => ?_) (fun c6 => ?_)
    · replace h := ifn c6 h
      refine V_iload_n C 2 dX12_personIs_24 rfl rfl ?_
      by_cases c7 : v2 = 0
      · replace h := ifp c7 h
        refine V_table C rfl dX12_personIs_25 (off := 39) (by rw [c7]; decide +kernel) (tgt := 64) rfl ?_
        refine V_aload_n C 0 dX12_personIs_64 rfl rfl ?_
        refine V_iload_n C 1 dX12_personIs_65 rfl rfl ?_
        refine V_iconst C dX12_personIs_66 kc_i_0 ?_
        obtain ⟨a12, e11, h⟩ := bnd_s h
        refine W_callvi C cf_X12_who (c_X12_who e11) q_ML_X12_79 (ws_X12 sk_172) rfl dX12_personIs_67 (by decide) rfl rfl (Nat.le_of_ble_eq_true rfl) ?_
        exact V_iret C X dX12_personIs_70 ⟨ri_1 h, ri_2 h⟩
      · replace h := ifn c7 h
        by_cases c8 : v2 = 1
        · replace h := ifp c8 h
          refine V_table C rfl dX12_personIs_25 (off := 46) (by rw [c8]; decide +kernel) (tgt := 71) rfl ?_
          refine V_aload_n C 0 dX12_personIs_71 rfl rfl ?_
          refine V_iload_n C 1 dX12_personIs_72 rfl rfl ?_
          refine V_iconst C dX12_personIs_73 kc_i_1 ?_
          obtain ⟨a14, e13, h⟩ := bnd_s h
          refine W_callvi C cf_X12_who (c_X12_who e13) q_ML_X12_79 (ws_X12 sk_172) rfl dX12_personIs_74 (by decide) rfl rfl (Nat.le_of_ble_eq_true rfl) ?_
          exact V_iret C X dX12_personIs_77 ⟨ri_1 h, ri_2 h⟩
        · replace h := ifn c8 h
          by_cases c9 : v2 = 2
          · replace h := ifp c9 h
            refine V_table C rfl dX12_personIs_25 (off := 53) (by rw [c9]; decide +kernel) (tgt := 78) rfl ?_
            refine V_bipush C dX12_personIs_78 kc_b_10 ?_
            refine V_aload_n C 0 dX12_personIs_80 rfl rfl ?_
            refine V_iload_n C 1 dX12_personIs_81 rfl rfl ?_
            refine V_iconst C dX12_personIs_82 kc_i_2 ?_
            obtain ⟨a16, e15, h⟩ := bnd_s h
            refine W_callvi C cf_X12_who (c_X12_who e15) q_ML_X12_79 (ws_X12 sk_172) rfl dX12_personIs_83 (by decide) rfl rfl (Nat.le_of_ble_eq_true rfl) ?_
            refine V_imul C dX12_personIs_86 ?_
            refine V_aload_n C 0 dX12_personIs_87 rfl rfl ?_
            refine V_iload_n C 1 dX12_personIs_88 rfl rfl ?_
            refine V_iconst C dX12_personIs_89 kc_i_3 ?_
            obtain ⟨a18, e17, h⟩ := bnd_s h
            refine W_callvi C cf_X12_who (c_X12_who e17) q_ML_X12_79 (ws_X12 sk_172) rfl dX12_personIs_90 (by decide) rfl rfl (Nat.le_of_ble_eq_true rfl) ?_
            refine V_iadd C dX12_personIs_93 ?_
            exact V_iret C X dX12_personIs_94 ⟨ri_1 h, ri_2 h⟩
          · replace h := ifn c9 h
            by_cases c10 : v2 = 5
            · replace h := ifp c10 h
              refine V_table C rfl dX12_personIs_25 (off := 70) (by rw [c10]; decide +kernel) (tgt := 95) rfl ?_
              refine V_aload_n C 0 dX12_personIs_95 rfl rfl ?_
              refine V_iload_n C 1 dX12_personIs_96 rfl rfl ?_
              obtain ⟨a20, e19, h⟩ := bnd_s h
              refine W_callvi C cf_X12_lacks (c_X12_lacks e19) q_ML_X12_82 (ws_X12 sk_172) rfl dX12_personIs_97 (by decide) rfl rfl (Nat.le_of_ble_eq_true rfl) ?_
              exact V_iret C X dX12_personIs_100 ⟨ri_1 h, ri_2 h⟩
            · replace h := ifn c10 h
              refine V_table C rfl dX12_personIs_25 (swt_d [(0 : Int32), (1 : Int32), (2 : Int32), (5 : Int32)] (List.forall_mem_cons.mpr ⟨c7, (List.forall_mem_cons.mpr ⟨c8, (List.forall_mem_cons.mpr ⟨c9, (List.forall_mem_cons.mpr ⟨c10, (fun _ h => absurd h List.not_mem_nil)⟩)⟩)⟩)⟩) rfl (by decide +kernel)) (tgt := 101) rfl ?_
              refine V_aload_n C 0 dX12_personIs_101 rfl rfl ?_
              refine V_iload_n C 1 dX12_personIs_102 rfl rfl ?_
              refine V_iload_n C 2 dX12_personIs_103 rfl rfl ?_
              obtain ⟨a22, e21, h⟩ := bnd_s h
              refine W_callvi C cf_X12_owns (c_X12_owns e21) q_ML_X12_85 (ws_X12 sk_172) rfl dX12_personIs_104 (by decide) rfl rfl (Nat.le_of_ble_eq_true rfl) ?_
              exact V_iret C X dX12_personIs_107 ⟨ri_1 h, ri_2 h⟩
    · replace h := ifp c6 h
      refine V_sub C [0] rfl ?_
      exact v_X12_personIs_18 C X h
theorem c_X12_personIs {ε : eT} {N : Nat} {S : St} {v1 : Int32} {v2 : Int32} {res : (Int32 × St)} (h : f_X12_personIs N S v1 v2 = some res) : CI ε yX12_personIs cX12_personIs 3 (some .int) 5 [.ref (eA ε 172), .int v1, .int v2] S (some (.int res.1)) res.2 := CI_of (by decide) (Nat.le_of_ble_eq_true rfl) rfl (fun κ C X => v_X12_personIs_e C X h)
def f_X12_price_19 (S : St) : Option (Int32 × St) :=
 bnd2 (f_X12_error S (1 : Int32)) (fun a2 S3 =>
 some (a2, S3))
set_option maxRecDepth 20000 in
theorem v_X12_price_19 {ε : eT} {κ : kT} (C : Act ε κ cX12_price 4 RX12 3) {S : St} {res : (Int32 × St)} (X : RI ε κ (some .int) (some (.int res.1)) res.2) (h : f_X12_price_19 S = some res) : V ε κ 4 19 [(0, .ref (eA ε 172))] [] (wsOf ε S) 0 0 := by
  unfold f_X12_price_19 at h
  refine V_aload_n C 0 dX12_price_19 rfl rfl ?_
  refine V_iconst C dX12_price_20 kc_i_1 ?_
  obtain ⟨a2, S3, e1, h⟩ := bnd2_s h
  refine W_callvi C cf_X12_error (c_X12_error e1) q_ML_X12_60 (ws_X12 sk_172) rfl dX12_price_21 (by decide) rfl rfl (Nat.le_of_ble_eq_true rfl) ?_
  exact V_iret C X dX12_price_24 ⟨ri_1 h, ri_2 h⟩
def f_X12_price (S : St) (v1 : Int32) (v2 : Int32) : Option (Int32 × St) :=
 bnd (f_X12_isThing S v1) (fun a2 =>
 (if a2 = 0 then
 f_X12_price_19 S
 else
 bnd (f_X12_in S v2 (0 : Int32) (9999 : Int32)) (fun a5 =>
 (if a5 = 0 then
 f_X12_price_19 S
 else
 bnd (f_X12_its S v1 (1 : Int32)) (fun a8 =>
 (if inb (((44 : Int32) + ((4 : Int32) * v1)) + (1 : Int32)) 516 = true then
 some (a8, (pt S 173 (((44 : Int32) + ((4 : Int32) * v1)) + (1 : Int32)).toNatClampNeg v2))
 else none))))))
set_option maxRecDepth 20000 in
theorem v_X12_price_e {ε : eT} {κ : kT} (C : Act ε κ cX12_price 4 RX12 3) {S : St} {res : (Int32 × St)} (X : RI ε κ (some .int) (some (.int res.1)) res.2) {v1 : Int32} {v2 : Int32} (h : f_X12_price S v1 v2 = some res) : V ε κ 4 0 [(0, .ref (eA ε 172)), (1, .int v1), (2, .int v2)] [] (wsOf ε S) 0 0 := by
  unfold f_X12_price at h
  refine V_aload_n C 0 dX12_price_0 rfl rfl ?_
  refine V_iload_n C 1 dX12_price_1 rfl rfl ?_
  obtain ⟨a2, e1, h⟩ := bnd_s h
  refine W_callvi C cf_X12_isThing (c_X12_isThing e1) q_ML_X12_92 (ws_X12 sk_172) rfl dX12_price_2 (by decide) rfl rfl (Nat.le_of_ble_eq_true rfl) ?_
  refine V_if_eq C dX12_price_5 rfl (fun c3 => ?_) (fun c3 => ?_)
  · replace h := ifp c3 h
    refine V_sub C [0] rfl ?_
    exact v_X12_price_19 C X h
  · replace h := ifn c3 h
    refine V_iload_n C 2 dX12_price_8 rfl rfl ?_
    refine V_iconst C dX12_price_9 kc_i_0 ?_
    refine V_sipush C dX12_price_10 kc_s_9999 ?_
    obtain ⟨a5, e4, h⟩ := bnd_s h
    refine W_callsi C cf_X12_in (c_X12_in e4) q_ML_X12_47 dX12_price_13 (by decide) rfl rfl (Nat.le_of_ble_eq_true rfl) ?_
    refine V_if_ne C dX12_price_16 rfl (fun c6 => ?_) (fun c6 => ?_)
    · replace h := ifn c6 h
      refine V_aload_n C 0 dX12_price_25 rfl rfl ?_
      refine V_iload_n C 1 dX12_price_26 rfl rfl ?_
      refine V_iconst C dX12_price_27 kc_i_1 ?_
      obtain ⟨a8, e7, h⟩ := bnd_s h
      refine W_callvi C cf_X12_its (c_X12_its e7) q_ML_X12_51 (ws_X12 sk_172) rfl dX12_price_28 (by decide) rfl rfl (Nat.le_of_ble_eq_true rfl) ?_
      refine V_istore_n (lv' := [(3, .int a8), (0, .ref (eA ε 172)), (1, .int v1), (2, .int v2)]) C dX12_price_31 rfl (by decide) rfl ?_
      refine V_aload_n C 1 dX12_price_32 rfl rfl ?_
      refine G_X12_s (q := 172) C sk_172 q_FL_X12_7 dX12_price_33 ?_
      refine V_bipush C dX12_price_36 kc_b_44 ?_
      refine V_iconst C dX12_price_38 kc_i_4 ?_
      refine V_iload_n C 2 dX12_price_39 rfl rfl ?_
      refine V_imul C dX12_price_40 ?_
      refine V_iadd C dX12_price_41 ?_
      refine V_iconst C dX12_price_42 kc_i_1 ?_
      refine V_iadd C dX12_price_43 ?_
      refine V_iload_n C 3 dX12_price_44 rfl rfl ?_
      obtain ⟨g9, h⟩ := gdt h
      refine W_iast (q := 173) C sk_173 g9 dX12_price_45 ?_
      refine V_iload_n C 0 dX12_price_46 rfl rfl ?_
      exact V_iret C X dX12_price_47 ⟨ri_1 h, ri_2 h⟩
    · replace h := ifp c6 h
      refine V_sub C [0] rfl ?_
      exact v_X12_price_19 C X h
theorem c_X12_price {ε : eT} {S : St} {v1 : Int32} {v2 : Int32} {res : (Int32 × St)} (h : f_X12_price S v1 v2 = some res) : CI ε yX12_price cX12_price 4 (some .int) 3 [.ref (eA ε 172), .int v1, .int v2] S (some (.int res.1)) res.2 := CI_of (by decide) (Nat.le_of_ble_eq_true rfl) rfl (fun κ C X => v_X12_price_e C X h)
def f_X12_purse_18 (S : St) : Option (Int32 × St) :=
 bnd2 (f_X12_error S (1 : Int32)) (fun a2 S3 =>
 some (a2, S3))
set_option maxRecDepth 20000 in
theorem v_X12_purse_18 {ε : eT} {κ : kT} (C : Act ε κ cX12_purse 4 RX12 3) {S : St} {res : (Int32 × St)} (X : RI ε κ (some .int) (some (.int res.1)) res.2) (h : f_X12_purse_18 S = some res) : V ε κ 4 18 [(0, .ref (eA ε 172))] [] (wsOf ε S) 0 0 := by
  unfold f_X12_purse_18 at h
  refine V_aload_n C 0 dX12_purse_18 rfl rfl ?_
  refine V_iconst C dX12_purse_19 kc_i_1 ?_
  obtain ⟨a2, S3, e1, h⟩ := bnd2_s h
  refine W_callvi C cf_X12_error (c_X12_error e1) q_ML_X12_60 (ws_X12 sk_172) rfl dX12_purse_20 (by decide) rfl rfl (Nat.le_of_ble_eq_true rfl) ?_
  exact V_iret C X dX12_purse_23 ⟨ri_1 h, ri_2 h⟩
def f_X12_purse (S : St) (v1 : Int32) (v2 : Int32) : Option (Int32 × St) :=
 bnd (f_X12_isPerson S v1) (fun a2 =>
 (if a2 = 0 then
 f_X12_purse_18 S
 else
 bnd (f_X12_in S v2 (0 : Int32) (999999 : Int32)) (fun a5 =>
 (if a5 = 0 then
 f_X12_purse_18 S
 else
 bnd (f_X12_who S v1 (1 : Int32)) (fun a8 =>
 (if inb (((20 : Int32) + ((4 : Int32) * v1)) + (1 : Int32)) 516 = true then
 some (a8, (pt S 173 (((20 : Int32) + ((4 : Int32) * v1)) + (1 : Int32)).toNatClampNeg v2))
 else none))))))
set_option maxRecDepth 20000 in
theorem v_X12_purse_e {ε : eT} {κ : kT} (C : Act ε κ cX12_purse 4 RX12 3) {S : St} {res : (Int32 × St)} (X : RI ε κ (some .int) (some (.int res.1)) res.2) {v1 : Int32} {v2 : Int32} (h : f_X12_purse S v1 v2 = some res) : V ε κ 4 0 [(0, .ref (eA ε 172)), (1, .int v1), (2, .int v2)] [] (wsOf ε S) 0 0 := by
  unfold f_X12_purse at h
  refine V_aload_n C 0 dX12_purse_0 rfl rfl ?_
  refine V_iload_n C 1 dX12_purse_1 rfl rfl ?_
  obtain ⟨a2, e1, h⟩ := bnd_s h
  refine W_callvi C cf_X12_isPerson (c_X12_isPerson e1) q_ML_X12_76 (ws_X12 sk_172) rfl dX12_purse_2 (by decide) rfl rfl (Nat.le_of_ble_eq_true rfl) ?_
  refine V_if_eq C dX12_purse_5 rfl (fun c3 => ?_) (fun c3 => ?_)
  · replace h := ifp c3 h
    refine V_sub C [0] rfl ?_
    exact v_X12_purse_18 C X h
  · replace h := ifn c3 h
    refine V_iload_n C 2 dX12_purse_8 rfl rfl ?_
    refine V_iconst C dX12_purse_9 kc_i_0 ?_
    refine V_ldc C q_K_X12_55 dX12_purse_10 ?_
    obtain ⟨a5, e4, h⟩ := bnd_s h
    refine W_callsi C cf_X12_in (c_X12_in e4) q_ML_X12_47 dX12_purse_12 (by decide) rfl rfl (Nat.le_of_ble_eq_true rfl) ?_
    refine V_if_ne C dX12_purse_15 rfl (fun c6 => ?_) (fun c6 => ?_)
    · replace h := ifn c6 h
      refine V_aload_n C 0 dX12_purse_24 rfl rfl ?_
      refine V_iload_n C 1 dX12_purse_25 rfl rfl ?_
      refine V_iconst C dX12_purse_26 kc_i_1 ?_
      obtain ⟨a8, e7, h⟩ := bnd_s h
      refine W_callvi C cf_X12_who (c_X12_who e7) q_ML_X12_79 (ws_X12 sk_172) rfl dX12_purse_27 (by decide) rfl rfl (Nat.le_of_ble_eq_true rfl) ?_
      refine V_istore_n (lv' := [(3, .int a8), (0, .ref (eA ε 172)), (1, .int v1), (2, .int v2)]) C dX12_purse_30 rfl (by decide) rfl ?_
      refine V_aload_n C 1 dX12_purse_31 rfl rfl ?_
      refine G_X12_s (q := 172) C sk_172 q_FL_X12_7 dX12_purse_32 ?_
      refine V_bipush C dX12_purse_35 kc_b_20 ?_
      refine V_iconst C dX12_purse_37 kc_i_4 ?_
      refine V_iload_n C 2 dX12_purse_38 rfl rfl ?_
      refine V_imul C dX12_purse_39 ?_
      refine V_iadd C dX12_purse_40 ?_
      refine V_iconst C dX12_purse_41 kc_i_1 ?_
      refine V_iadd C dX12_purse_42 ?_
      refine V_iload_n C 3 dX12_purse_43 rfl rfl ?_
      obtain ⟨g9, h⟩ := gdt h
      refine W_iast (q := 173) C sk_173 g9 dX12_purse_44 ?_
      refine V_iload_n C 0 dX12_purse_45 rfl rfl ?_
      exact V_iret C X dX12_purse_46 ⟨ri_1 h, ri_2 h⟩
    · replace h := ifp c6 h
      refine V_sub C [0] rfl ?_
      exact v_X12_purse_18 C X h
theorem c_X12_purse {ε : eT} {S : St} {v1 : Int32} {v2 : Int32} {res : (Int32 × St)} (h : f_X12_purse S v1 v2 = some res) : CI ε yX12_purse cX12_purse 4 (some .int) 3 [.ref (eA ε 172), .int v1, .int v2] S (some (.int res.1)) res.2 := CI_of (by decide) (Nat.le_of_ble_eq_true rfl) rfl (fun κ C X => v_X12_purse_e C X h)
def f_X12_put (S : St) (v1 : Int32) (v2 : Int32) (v3 : Int32) : Option (Int32 × St) :=
 bnd (f_X12_isSheet S v1) (fun a2 =>
 (if a2 = 0 then
 bnd2 (f_X12_error S (1 : Int32)) (fun a19 S20 =>
 some (a19, S20))
 else
 (if inb v1 4 = true then
 (if (S.1 181 v1.toNatClampNeg) = 0 then
 bnd2 (f_X12_error S (2 : Int32)) (fun a16 S17 =>
 some (a16, S17))
 else
 (if inb v1 4 = true then
 bnd (f_X12_in S v2 (0 : Int32) ((S.1 182 v1.toNatClampNeg) - (1 : Int32))) (fun a8 =>
 (if a8 = 0 then
 bnd2 (f_X12_error S (1 : Int32)) (fun a13 S14 =>
 some (a13, S14))
 else
 (if inb v1 4 = true then
 (if inb (((24 : Int32) * v1) + v2) 96 = true then
 some ((1 : Int32), (pt S 183 (((24 : Int32) * v1) + v2).toNatClampNeg ((v3 <<< (((32 : Int32) - (S.1 181 v1.toNatClampNeg)) &&& 31)) >>> (((32 : Int32) - (S.1 181 v1.toNatClampNeg)) &&& 31))))
 else none)
 else none)))
 else none))
 else none)))
set_option maxRecDepth 20000 in
theorem v_X12_put_e {ε : eT} {κ : kT} (C : Act ε κ cX12_put 5 RX12 3) {S : St} {res : (Int32 × St)} (X : RI ε κ (some .int) (some (.int res.1)) res.2) {v1 : Int32} {v2 : Int32} {v3 : Int32} (h : f_X12_put S v1 v2 v3 = some res) : V ε κ 5 0 [(0, .ref (eA ε 172)), (1, .int v1), (2, .int v2), (3, .int v3)] [] (wsOf ε S) 0 0 := by
  unfold f_X12_put at h
  refine V_iload_n C 1 dX12_put_0 rfl rfl ?_
  obtain ⟨a2, e1, h⟩ := bnd_s h
  refine W_callsi C cf_X12_isSheet (c_X12_isSheet e1) q_ML_X12_279 dX12_put_1 (by decide) rfl rfl (Nat.le_of_ble_eq_true rfl) ?_
  refine V_if_ne C dX12_put_4 rfl (fun c3 => ?_) (fun c3 => ?_)
  · replace h := ifn c3 h
    refine V_aload_n C 0 dX12_put_13 rfl rfl ?_
    refine G_X12_bits (q := 172) C sk_172 q_FL_X12_34 dX12_put_14 ?_
    refine V_iload_n C 1 dX12_put_17 rfl rfl ?_
    obtain ⟨g4, h⟩ := gdt h
    refine W_iald (q := 181) C sk_181 g4 dX12_put_18 ?_
    refine V_if_ne C dX12_put_19 rfl (fun c5 => ?_) (fun c5 => ?_)
    · replace h := ifn c5 h
      refine V_iload_n C 2 dX12_put_28 rfl rfl ?_
      refine V_iconst C dX12_put_29 kc_i_0 ?_
      refine V_aload_n C 0 dX12_put_30 rfl rfl ?_
      refine G_X12_sizes (q := 172) C sk_172 q_FL_X12_37 dX12_put_31 ?_
      refine V_iload_n C 1 dX12_put_34 rfl rfl ?_
      obtain ⟨g6, h⟩ := gdt h
      refine W_iald (q := 182) C sk_182 g6 dX12_put_35 ?_
      refine V_iconst C dX12_put_36 kc_i_1 ?_
      refine V_isub C dX12_put_37 ?_
      obtain ⟨a8, e7, h⟩ := bnd_s h
      refine W_callsi C cf_X12_in (c_X12_in e7) q_ML_X12_47 dX12_put_38 (by decide) rfl rfl (Nat.le_of_ble_eq_true rfl) ?_
      refine V_if_ne C dX12_put_41 rfl (fun c9 => ?_) (fun c9 => ?_)
      · replace h := ifn c9 h
        refine V_bipush C dX12_put_50 kc_b_32 ?_
        refine V_aload_n C 0 dX12_put_52 rfl rfl ?_
        refine G_X12_bits (q := 172) C sk_172 q_FL_X12_34 dX12_put_53 ?_
        refine V_iload_n C 1 dX12_put_56 rfl rfl ?_
        obtain ⟨g10, h⟩ := gdt h
        refine W_iald (q := 181) C sk_181 g10 dX12_put_57 ?_
        refine V_isub C dX12_put_58 ?_
        refine V_istore (lv' := [(4, .int ((32 : Int32) - (S.1 181 v1.toNatClampNeg))), (0, .ref (eA ε 172)), (1, .int v1), (2, .int v2), (3, .int v3)]) C dX12_put_59 (by decide) rfl ?_
        refine V_aload_n C 1 dX12_put_61 rfl rfl ?_
        refine G_X12_number (q := 172) C sk_172 q_FL_X12_40 dX12_put_62 ?_
        refine V_bipush C dX12_put_65 kc_b_24 ?_
        refine V_iload_n C 2 dX12_put_67 rfl rfl ?_
        refine V_imul C dX12_put_68 ?_
        refine V_iload_n C 3 dX12_put_69 rfl rfl ?_
        refine V_iadd C dX12_put_70 ?_
        refine V_iload_n C 4 dX12_put_71 rfl rfl ?_
        refine V_iload C 0 dX12_put_72 rfl ?_
        refine V_ishl C dX12_put_74 ?_
        refine V_iload C 0 dX12_put_75 rfl ?_
        refine V_ishr C dX12_put_77 ?_
        obtain ⟨g11, h⟩ := gdt h
        refine W_iast (q := 183) C sk_183 g11 dX12_put_78 ?_
        refine V_iconst C dX12_put_79 kc_i_1 ?_
        exact V_iret C X dX12_put_80 ⟨ri_1 h, ri_2 h⟩
      · replace h := ifp c9 h
        refine V_aload_n C 0 dX12_put_44 rfl rfl ?_
        refine V_iconst C dX12_put_45 kc_i_1 ?_
        obtain ⟨a13, S14, e12, h⟩ := bnd2_s h
        refine W_callvi C cf_X12_error (c_X12_error e12) q_ML_X12_60 (ws_X12 sk_172) rfl dX12_put_46 (by decide) rfl rfl (Nat.le_of_ble_eq_true rfl) ?_
        exact V_iret C X dX12_put_49 ⟨ri_1 h, ri_2 h⟩
    · replace h := ifp c5 h
      refine V_aload_n C 0 dX12_put_22 rfl rfl ?_
      refine V_iconst C dX12_put_23 kc_i_2 ?_
      obtain ⟨a16, S17, e15, h⟩ := bnd2_s h
      refine W_callvi C cf_X12_error (c_X12_error e15) q_ML_X12_60 (ws_X12 sk_172) rfl dX12_put_24 (by decide) rfl rfl (Nat.le_of_ble_eq_true rfl) ?_
      exact V_iret C X dX12_put_27 ⟨ri_1 h, ri_2 h⟩
  · replace h := ifp c3 h
    refine V_aload_n C 0 dX12_put_7 rfl rfl ?_
    refine V_iconst C dX12_put_8 kc_i_1 ?_
    obtain ⟨a19, S20, e18, h⟩ := bnd2_s h
    refine W_callvi C cf_X12_error (c_X12_error e18) q_ML_X12_60 (ws_X12 sk_172) rfl dX12_put_9 (by decide) rfl rfl (Nat.le_of_ble_eq_true rfl) ?_
    exact V_iret C X dX12_put_12 ⟨ri_1 h, ri_2 h⟩
theorem c_X12_put {ε : eT} {S : St} {v1 : Int32} {v2 : Int32} {v3 : Int32} {res : (Int32 × St)} (h : f_X12_put S v1 v2 v3 = some res) : CI ε yX12_put cX12_put 5 (some .int) 3 [.ref (eA ε 172), .int v1, .int v2, .int v3] S (some (.int res.1)) res.2 := CI_of (by decide) (Nat.le_of_ble_eq_true rfl) rfl (fun κ C X => v_X12_put_e C X h)
def f_X12_restore (N : Nat) (S : St) : Option (Int32 × St) :=
 (if (S.1 172 3) = 0 then
 bnd2 (f_X12_error S (2 : Int32)) (fun a5 S6 =>
 some (a5, S6))
 else
 bnd (f_X12_lay N S 174 173) (fun S3 =>
 some ((S3.1 173 3), S3)))
set_option maxRecDepth 20000 in
theorem v_X12_restore_e {ε : eT} {κ : kT} {N : Nat} (C : Act ε κ cX12_restore 1 RX12 2) {S : St} {res : (Int32 × St)} (X : RI ε κ (some .int) (some (.int res.1)) res.2) (h : f_X12_restore N S = some res) : V ε κ 1 0 [(0, .ref (eA ε 172))] [] (wsOf ε S) 0 0 := by
  unfold f_X12_restore at h
  refine V_aload_n C 0 dX12_restore_0 rfl rfl ?_
  refine G_X12_images (q := 172) C sk_172 q_FL_X12_286 dX12_restore_1 ?_
  refine V_if_ne C dX12_restore_4 rfl (fun c1 => ?_) (fun c1 => ?_)
  · replace h := ifn c1 h
    refine V_aload_n C 0 dX12_restore_13 rfl rfl ?_
    refine G_X12_kept (q := 172) C sk_172 q_FL_X12_13 dX12_restore_14 ?_
    refine V_aload_n C 0 dX12_restore_17 rfl rfl ?_
    refine G_X12_s (q := 172) C sk_172 q_FL_X12_7 dX12_restore_18 ?_
    obtain ⟨S3, e2, h⟩ := bnd_s h
    refine W_callsn C cf_X12_lay (c_X12_lay sk_174 sk_173 e2) q_ML_X12_241 dX12_restore_21 (by decide) rfl rfl (Nat.le_of_ble_eq_true rfl) ?_
    refine V_aload_n C 0 dX12_restore_24 rfl rfl ?_
    refine G_X12_s (q := 172) C sk_172 q_FL_X12_7 dX12_restore_25 ?_
    refine V_iconst C dX12_restore_28 kc_i_3 ?_
    refine W_ialdc (q := 173) C sk_173 (j := 3) tn_3 (by decide) dX12_restore_29 ?_
    exact V_iret C X dX12_restore_30 ⟨ri_1 h, ri_2 h⟩
  · replace h := ifp c1 h
    refine V_aload_n C 0 dX12_restore_7 rfl rfl ?_
    refine V_iconst C dX12_restore_8 kc_i_2 ?_
    obtain ⟨a5, S6, e4, h⟩ := bnd2_s h
    refine W_callvi C cf_X12_error (c_X12_error e4) q_ML_X12_60 (ws_X12 sk_172) rfl dX12_restore_9 (by decide) rfl rfl (Nat.le_of_ble_eq_true rfl) ?_
    exact V_iret C X dX12_restore_12 ⟨ri_1 h, ri_2 h⟩
theorem c_X12_restore {ε : eT} {N : Nat} {S : St} {res : (Int32 × St)} (h : f_X12_restore N S = some res) : CI ε yX12_restore cX12_restore 1 (some .int) 2 [.ref (eA ε 172)] S (some (.int res.1)) res.2 := CI_of (by decide) (Nat.le_of_ble_eq_true rfl) rfl (fun κ C X => v_X12_restore_e C X h)
def f_X12_right_16 (N : Nat) : Nat → St → Int32 → Int32 → Option (Int32 × St)
  | 0, _, _, _ => none
  | n + 1, S, v1, v2 =>
    (if (99 : Int32) < v2 then
     bnd2 (f_X12_error S (2 : Int32)) (fun a3 S4 =>
     some (a3, S4))
     else
     bnd (f_X12_bestWith N S v1 v2) (fun a6 =>
     bnd (f_X12_owner S v1) (fun a8 =>
     bnd (f_X12_valueTo S a8 v1) (fun a10 =>
     (if a6 = a10 then
     some (v2, S)
     else
     f_X12_right_16 N n S v1 (v2 + 1))))))
set_option maxRecDepth 20000 in
theorem v_X12_right_16 {ε : eT} {κ : kT} {N : Nat} (C : Act ε κ cX12_right 3 RX12 7) {res : (Int32 × St)} (X : RI ε κ (some .int) (some (.int res.1)) res.2) : ∀ (n : Nat) (S : St) (v1 : Int32) (v2 : Int32) (h : f_X12_right_16 N n S v1 v2 = some res), V ε κ 3 16 [(0, .ref (eA ε 172)), (1, .int v1), (2, .int v2)] [] (wsOf ε S) 0 0 := by
  intro n
  induction n with
  | zero => intro S v1 v2 h; cases h
  | succ n ih =>
    intro S v1 v2 h
    rw [f_X12_right_16] at h
    refine V_iload_n C 2 dX12_right_16 rfl rfl ?_
    refine V_bipush C dX12_right_17 kc_b_99 ?_
    refine V_icmp_gt C dX12_right_19 rfl (fun c1 => ?_) (fun c1 => ?_)
    · replace h := ifp c1 h
      refine V_aload_n C 0 dX12_right_49 rfl rfl ?_
      refine V_iconst C dX12_right_50 kc_i_2 ?_
      obtain ⟨a3, S4, e2, h⟩ := bnd2_s h
      refine W_callvi C cf_X12_error (c_X12_error e2) q_ML_X12_60 (ws_X12 sk_172) rfl dX12_right_51 (by decide) rfl rfl (Nat.le_of_ble_eq_true rfl) ?_
      exact V_iret C X dX12_right_54 ⟨ri_1 h, ri_2 h⟩
    · replace h := ifn c1 h
      refine V_aload_n C 0 dX12_right_22 rfl rfl ?_
      refine V_iload_n C 1 dX12_right_23 rfl rfl ?_
      refine V_iload_n C 2 dX12_right_24 rfl rfl ?_
      obtain ⟨a6, e5, h⟩ := bnd_s h
      refine W_callvi C cf_X12_bestWith (c_X12_bestWith e5) q_ML_X12_232 (ws_X12 sk_172) rfl dX12_right_25 (by decide) rfl rfl (Nat.le_of_ble_eq_true rfl) ?_
      refine V_aload_n C 0 dX12_right_28 rfl rfl ?_
      refine V_aload_n C 0 dX12_right_29 rfl rfl ?_
      refine V_iload_n C 1 dX12_right_30 rfl rfl ?_
      obtain ⟨a8, e7, h⟩ := bnd_s h
      refine W_callvi C cf_X12_owner (c_X12_owner e7) q_ML_X12_67 (ws_X12 sk_172) rfl dX12_right_31 (by decide) rfl rfl (Nat.le_of_ble_eq_true rfl) ?_
      refine V_iload_n C 1 dX12_right_34 rfl rfl ?_
      obtain ⟨a10, e9, h⟩ := bnd_s h
      refine W_callvi C cf_X12_valueTo (c_X12_valueTo e9) q_ML_X12_73 (ws_X12 sk_172) rfl dX12_right_35 (by decide) rfl rfl (Nat.le_of_ble_eq_true rfl) ?_
      refine V_icmp_ne C dX12_right_38 rfl (fun c11 => ?_) (fun c11 => ?_)
      · replace h := ifn c11 h
        refine V_iinc (v := (v2 + 1)) (lv' := [(2, .int (v2 + 1)), (0, .ref (eA ε 172)), (1, .int v1)]) C 2 dX12_right_43 rfl (congrArg _ kc_i_1) (by decide) rfl ?_
        refine V_goto C dX12_right_46 rfl ?_
        refine V_sub C [1, 2, 0] rfl ?_
        exact ih _ _ _ h
      · replace h := ifp c11 h
        refine V_iload_n C 2 dX12_right_41 rfl rfl ?_
        exact V_iret C X dX12_right_42 ⟨ri_1 h, ri_2 h⟩
def f_X12_right (N : Nat) (S : St) (v1 : Int32) : Option (Int32 × St) :=
 bnd (f_X12_isThing S v1) (fun a2 =>
 (if a2 = 0 then
 bnd2 (f_X12_error S (1 : Int32)) (fun a5 S6 =>
 some (a5, S6))
 else
 f_X12_right_16 N N S v1 (0 : Int32)))
set_option maxRecDepth 20000 in
theorem v_X12_right_e {ε : eT} {κ : kT} {N : Nat} (C : Act ε κ cX12_right 3 RX12 7) {S : St} {res : (Int32 × St)} (X : RI ε κ (some .int) (some (.int res.1)) res.2) {v1 : Int32} (h : f_X12_right N S v1 = some res) : V ε κ 3 0 [(0, .ref (eA ε 172)), (1, .int v1)] [] (wsOf ε S) 0 0 := by
  unfold f_X12_right at h
  refine V_aload_n C 0 dX12_right_0 rfl rfl ?_
  refine V_iload_n C 1 dX12_right_1 rfl rfl ?_
  obtain ⟨a2, e1, h⟩ := bnd_s h
  refine W_callvi C cf_X12_isThing (c_X12_isThing e1) q_ML_X12_92 (ws_X12 sk_172) rfl dX12_right_2 (by decide) rfl rfl (Nat.le_of_ble_eq_true rfl) ?_
  refine V_if_ne C dX12_right_5 rfl (fun c3 => ?_) (fun c3 => ?_)
  · replace h := ifn c3 h
    refine V_iconst C dX12_right_14 kc_i_0 ?_
    refine V_istore_n (lv' := [(2, .int (0 : Int32)), (0, .ref (eA ε 172)), (1, .int v1)]) C dX12_right_15 rfl (by decide) rfl ?_
    refine V_sub C [1, 2, 0] rfl ?_
    exact v_X12_right_16 C X N _ _ _ h
  · replace h := ifp c3 h
    refine V_aload_n C 0 dX12_right_8 rfl rfl ?_
    refine V_iconst C dX12_right_9 kc_i_1 ?_
    obtain ⟨a5, S6, e4, h⟩ := bnd2_s h
    refine W_callvi C cf_X12_error (c_X12_error e4) q_ML_X12_60 (ws_X12 sk_172) rfl dX12_right_10 (by decide) rfl rfl (Nat.le_of_ble_eq_true rfl) ?_
    exact V_iret C X dX12_right_13 ⟨ri_1 h, ri_2 h⟩
theorem c_X12_right {ε : eT} {N : Nat} {S : St} {v1 : Int32} {res : (Int32 × St)} (h : f_X12_right N S v1 = some res) : CI ε yX12_right cX12_right 3 (some .int) 7 [.ref (eA ε 172), .int v1] S (some (.int res.1)) res.2 := CI_of (by decide) (Nat.le_of_ble_eq_true rfl) rfl (fun κ C X => v_X12_right_e C X h)
def f_X12_rule_21 (S : St) : Option (Int32 × St) :=
 bnd2 (f_X12_error S (1 : Int32)) (fun a2 S3 =>
 some (a2, S3))
set_option maxRecDepth 20000 in
theorem v_X12_rule_21 {ε : eT} {κ : kT} (C : Act ε κ cX12_rule 4 RX12 2) {S : St} {res : (Int32 × St)} (X : RI ε κ (some .int) (some (.int res.1)) res.2) (h : f_X12_rule_21 S = some res) : V ε κ 4 21 [(0, .ref (eA ε 172))] [] (wsOf ε S) 0 0 := by
  unfold f_X12_rule_21 at h
  refine V_aload_n C 0 dX12_rule_21 rfl rfl ?_
  refine V_iconst C dX12_rule_22 kc_i_1 ?_
  obtain ⟨a2, S3, e1, h⟩ := bnd2_s h
  refine W_callvi C cf_X12_error (c_X12_error e1) q_ML_X12_60 (ws_X12 sk_172) rfl dX12_rule_23 (by decide) rfl rfl (Nat.le_of_ble_eq_true rfl) ?_
  exact V_iret C X dX12_rule_26 ⟨ri_1 h, ri_2 h⟩
def f_X12_rule (S : St) (v1 : Int32) (v2 : Int32) : Option (Int32 × St) :=
 bnd (f_X12_in S v1 (0 : Int32) (4 : Int32)) (fun a2 =>
 (if a2 = 0 then
 f_X12_rule_21 S
 else
 bnd (f_X12_mostOf S v1) (fun a5 =>
 bnd (f_X12_in S v2 (0 : Int32) a5) (fun a7 =>
 (if a7 = 0 then
 f_X12_rule_21 S
 else
 (if inb ((10 : Int32) + v1) 516 = true then
 (if inb ((10 : Int32) + v1) 516 = true then
 some ((S.1 173 ((10 : Int32) + v1).toNatClampNeg), (pt S 173 ((10 : Int32) + v1).toNatClampNeg v2))
 else none)
 else none))))))
set_option maxRecDepth 20000 in
theorem v_X12_rule_e {ε : eT} {κ : kT} (C : Act ε κ cX12_rule 4 RX12 2) {S : St} {res : (Int32 × St)} (X : RI ε κ (some .int) (some (.int res.1)) res.2) {v1 : Int32} {v2 : Int32} (h : f_X12_rule S v1 v2 = some res) : V ε κ 4 0 [(0, .ref (eA ε 172)), (1, .int v1), (2, .int v2)] [] (wsOf ε S) 0 0 := by
  unfold f_X12_rule at h
  refine V_iload_n C 1 dX12_rule_0 rfl rfl ?_
  refine V_iconst C dX12_rule_1 kc_i_0 ?_
  refine V_iconst C dX12_rule_2 kc_i_4 ?_
  obtain ⟨a2, e1, h⟩ := bnd_s h
  refine W_callsi C cf_X12_in (c_X12_in e1) q_ML_X12_47 dX12_rule_3 (by decide) rfl rfl (Nat.le_of_ble_eq_true rfl) ?_
  refine V_if_eq C dX12_rule_6 rfl (fun c3 => ?_) (fun c3 => ?_)
  · replace h := ifp c3 h
    refine V_sub C [0] rfl ?_
    exact v_X12_rule_21 C X h
  · replace h := ifn c3 h
    refine V_iload_n C 2 dX12_rule_9 rfl rfl ?_
    refine V_iconst C dX12_rule_10 kc_i_0 ?_
    refine V_iload_n C 1 dX12_rule_11 rfl rfl ?_
    obtain ⟨a5, e4, h⟩ := bnd_s h
    refine W_callsi C cf_X12_mostOf (c_X12_mostOf e4) q_ML_X12_101 dX12_rule_12 (by decide) rfl rfl (Nat.le_of_ble_eq_true rfl) ?_
    obtain ⟨a7, e6, h⟩ := bnd_s h
    refine W_callsi C cf_X12_in (c_X12_in e6) q_ML_X12_47 dX12_rule_15 (by decide) rfl rfl (Nat.le_of_ble_eq_true rfl) ?_
    refine V_if_ne C dX12_rule_18 rfl (fun c8 => ?_) (fun c8 => ?_)
    · replace h := ifn c8 h
      refine V_aload_n C 0 dX12_rule_27 rfl rfl ?_
      refine G_X12_s (q := 172) C sk_172 q_FL_X12_7 dX12_rule_28 ?_
      refine V_bipush C dX12_rule_31 kc_b_10 ?_
      refine V_iload_n C 1 dX12_rule_33 rfl rfl ?_
      refine V_iadd C dX12_rule_34 ?_
      obtain ⟨g9, h⟩ := gdt h
      refine W_iald (q := 173) C sk_173 g9 dX12_rule_35 ?_
      refine V_istore_n (lv' := [(3, .int (S.1 173 ((10 : Int32) + v1).toNatClampNeg)), (0, .ref (eA ε 172)), (1, .int v1), (2, .int v2)]) C dX12_rule_36 rfl (by decide) rfl ?_
      refine V_aload_n C 1 dX12_rule_37 rfl rfl ?_
      refine G_X12_s (q := 172) C sk_172 q_FL_X12_7 dX12_rule_38 ?_
      refine V_bipush C dX12_rule_41 kc_b_10 ?_
      refine V_iload_n C 2 dX12_rule_43 rfl rfl ?_
      refine V_iadd C dX12_rule_44 ?_
      refine V_iload_n C 3 dX12_rule_45 rfl rfl ?_
      obtain ⟨g10, h⟩ := gdt h
      refine W_iast (q := 173) C sk_173 g10 dX12_rule_46 ?_
      refine V_iload_n C 0 dX12_rule_47 rfl rfl ?_
      exact V_iret C X dX12_rule_48 ⟨ri_1 h, ri_2 h⟩
    · replace h := ifp c8 h
      refine V_sub C [0] rfl ?_
      exact v_X12_rule_21 C X h
theorem c_X12_rule {ε : eT} {S : St} {v1 : Int32} {v2 : Int32} {res : (Int32 × St)} (h : f_X12_rule S v1 v2 = some res) : CI ε yX12_rule cX12_rule 4 (some .int) 2 [.ref (eA ε 172), .int v1, .int v2] S (some (.int res.1)) res.2 := CI_of (by decide) (Nat.le_of_ble_eq_true rfl) rfl (fun κ C X => v_X12_rule_e C X h)
def f_X12_seed (S : St) (v1 : Int32) : Option (Int32 × St) :=
 some ((S.1 173 8), (pt S 173 8 v1))
set_option maxRecDepth 20000 in
theorem v_X12_seed_e {ε : eT} {κ : kT} (C : Act ε κ cX12_seed 3 RX12 1) {S : St} {res : (Int32 × St)} (X : RI ε κ (some .int) (some (.int res.1)) res.2) {v1 : Int32} (h : f_X12_seed S v1 = some res) : V ε κ 3 0 [(0, .ref (eA ε 172)), (1, .int v1)] [] (wsOf ε S) 0 0 := by
  unfold f_X12_seed at h
  refine V_aload_n C 0 dX12_seed_0 rfl rfl ?_
  refine G_X12_s (q := 172) C sk_172 q_FL_X12_7 dX12_seed_1 ?_
  refine V_bipush C dX12_seed_4 kc_b_8 ?_
  refine W_ialdc (q := 173) C sk_173 (j := 8) tn_8 (by decide) dX12_seed_6 ?_
  refine V_istore_n (lv' := [(2, .int (S.1 173 8)), (0, .ref (eA ε 172)), (1, .int v1)]) C dX12_seed_7 rfl (by decide) rfl ?_
  refine V_aload_n C 1 dX12_seed_8 rfl rfl ?_
  refine G_X12_s (q := 172) C sk_172 q_FL_X12_7 dX12_seed_9 ?_
  refine V_bipush C dX12_seed_12 kc_b_8 ?_
  refine V_iload_n C 2 dX12_seed_14 rfl rfl ?_
  refine W_iastc (q := 173) C sk_173 (j := 8) tn_8 (by decide) dX12_seed_15 ?_
  refine V_iload_n C 0 dX12_seed_16 rfl rfl ?_
  exact V_iret C X dX12_seed_17 ⟨ri_1 h, ri_2 h⟩
theorem c_X12_seed {ε : eT} {S : St} {v1 : Int32} {res : (Int32 × St)} (h : f_X12_seed S v1 = some res) : CI ε yX12_seed cX12_seed 3 (some .int) 1 [.ref (eA ε 172), .int v1] S (some (.int res.1)) res.2 := CI_of (by decide) (Nat.le_of_ble_eq_true rfl) rfl (fun κ C X => v_X12_seed_e C X h)
def f_X12_sheet_29 (N : Nat) (S : St) : Option (Int32 × St) :=
 bnd2 (f_X12_error S (1 : Int32)) (fun a2 S3 =>
 some (a2, S3))
set_option maxRecDepth 20000 in
theorem v_X12_sheet_29 {ε : eT} {κ : kT} {N : Nat} (C : Act ε κ cX12_sheet 5 RX12 3) {S : St} {res : (Int32 × St)} (X : RI ε κ (some .int) (some (.int res.1)) res.2) (h : f_X12_sheet_29 N S = some res) : V ε κ 5 29 [(0, .ref (eA ε 172))] [] (wsOf ε S) 0 0 := by
  unfold f_X12_sheet_29 at h
  refine V_aload_n C 0 dX12_sheet_29 rfl rfl ?_
  refine V_iconst C dX12_sheet_30 kc_i_1 ?_
  obtain ⟨a2, S3, e1, h⟩ := bnd2_s h
  refine W_callvi C cf_X12_error (c_X12_error e1) q_ML_X12_60 (ws_X12 sk_172) rfl dX12_sheet_31 (by decide) rfl rfl (Nat.le_of_ble_eq_true rfl) ?_
  exact V_iret C X dX12_sheet_34 ⟨ri_1 h, ri_2 h⟩
def f_X12_sheet_90 (N : Nat) : Nat → St → Int32 → Int32 → Option (Int32 × St)
  | 0, _, _, _ => none
  | n + 1, S, v1, v4 =>
    (if (24 : Int32) ≤ v4 then
     some ((1 : Int32), S)
     else
     (if inb (((24 : Int32) * v1) + v4) 96 = true then
     f_X12_sheet_90 N n (pt S 183 (((24 : Int32) * v1) + v4).toNatClampNeg (0 : Int32)) v1 (v4 + 1)
     else none))
set_option maxRecDepth 20000 in
theorem v_X12_sheet_90 {ε : eT} {κ : kT} {N : Nat} (C : Act ε κ cX12_sheet 5 RX12 3) {res : (Int32 × St)} (X : RI ε κ (some .int) (some (.int res.1)) res.2) : ∀ (n : Nat) (S : St) (v1 : Int32) (v4 : Int32) (h : f_X12_sheet_90 N n S v1 v4 = some res), V ε κ 5 90 [(0, .ref (eA ε 172)), (1, .int v1), (4, .int v4)] [] (wsOf ε S) 0 0 := by
  intro n
  induction n with
  | zero => intro S v1 v4 h; cases h
  | succ n ih =>
    intro S v1 v4 h
    rw [f_X12_sheet_90] at h
    refine V_iload C 2 dX12_sheet_90 rfl ?_
    refine V_bipush C dX12_sheet_92 kc_b_24 ?_
    refine V_icmp_ge C dX12_sheet_94 rfl (fun c1 => ?_) (fun c1 => ?_)
    · replace h := ifp c1 h
      refine V_iconst C dX12_sheet_116 kc_i_1 ?_
      exact V_iret C X dX12_sheet_117 ⟨ri_1 h, ri_2 h⟩
    · replace h := ifn c1 h
      refine V_aload_n C 0 dX12_sheet_97 rfl rfl ?_
      refine G_X12_number (q := 172) C sk_172 q_FL_X12_40 dX12_sheet_98 ?_
      refine V_bipush C dX12_sheet_101 kc_b_24 ?_
      refine V_iload_n C 1 dX12_sheet_103 rfl rfl ?_
      refine V_imul C dX12_sheet_104 ?_
      refine V_iload C 2 dX12_sheet_105 rfl ?_
      refine V_iadd C dX12_sheet_107 ?_
      refine V_iconst C dX12_sheet_108 kc_i_0 ?_
      obtain ⟨g2, h⟩ := gdt h
      refine W_iast (q := 183) C sk_183 g2 dX12_sheet_109 ?_
      refine V_iinc (v := (v4 + 1)) (lv' := [(4, .int (v4 + 1)), (0, .ref (eA ε 172)), (1, .int v1)]) C 2 dX12_sheet_110 rfl (congrArg _ kc_i_1) (by decide) rfl ?_
      refine V_goto C dX12_sheet_113 rfl ?_
      refine V_sub C [1, 2, 0] rfl ?_
      exact ih _ _ _ h
def f_X12_sheet_86 (N : Nat) (S : St) (v1 : Int32) (s0 : Int32) (s1 : Int32) : Option (Int32 × St) :=
 (if inb s1 4 = true then
 f_X12_sheet_90 N N (pt S 182 s1.toNatClampNeg s0) v1 (0 : Int32)
 else none)
set_option maxRecDepth 20000 in
theorem v_X12_sheet_86 {ε : eT} {κ : kT} {N : Nat} (C : Act ε κ cX12_sheet 5 RX12 3) {S : St} {res : (Int32 × St)} (X : RI ε κ (some .int) (some (.int res.1)) res.2) {v1 : Int32} {s0 : Int32} {s1 : Int32} (h : f_X12_sheet_86 N S v1 s0 s1 = some res) : V ε κ 5 86 [(0, .ref (eA ε 172)), (1, .int v1)] [.int s0, .int s1, .ref (eA ε 182)] (wsOf ε S) 0 0 := by
  unfold f_X12_sheet_86 at h
  obtain ⟨g1, h⟩ := gdt h
  refine W_iast (q := 182) C sk_182 g1 dX12_sheet_86 ?_
  refine V_iconst C dX12_sheet_87 kc_i_0 ?_
  refine V_istore (lv' := [(4, .int (0 : Int32)), (0, .ref (eA ε 172)), (1, .int v1)]) C dX12_sheet_88 (by decide) rfl ?_
  refine V_sub C [1, 2, 0] rfl ?_
  exact v_X12_sheet_90 C X N _ _ _ h
def f_X12_sheet_65 (N : Nat) (S : St) (v1 : Int32) (v2 : Int32) (v3 : Int32) : Option (Int32 × St) :=
 (if inb v1 4 = true then
 (if v2 = 0 then
 f_X12_sheet_86 N (pt S 181 v1.toNatClampNeg v2) v1 (0 : Int32) v1
 else
 f_X12_sheet_86 N (pt S 181 v1.toNatClampNeg v2) v1 v3 v1)
 else none)
set_option maxRecDepth 20000 in
theorem v_X12_sheet_65 {ε : eT} {κ : kT} {N : Nat} (C : Act ε κ cX12_sheet 5 RX12 3) {S : St} {res : (Int32 × St)} (X : RI ε κ (some .int) (some (.int res.1)) res.2) {v1 : Int32} {v2 : Int32} {v3 : Int32} (h : f_X12_sheet_65 N S v1 v2 v3 = some res) : V ε κ 5 65 [(0, .ref (eA ε 172)), (1, .int v1), (2, .int v2), (3, .int v3)] [] (wsOf ε S) 0 0 := by
  unfold f_X12_sheet_65 at h
  refine V_aload_n C 0 dX12_sheet_65 rfl rfl ?_
  refine G_X12_bits (q := 172) C sk_172 q_FL_X12_34 dX12_sheet_66 ?_
  refine V_iload_n C 1 dX12_sheet_69 rfl rfl ?_
  refine V_iload_n C 2 dX12_sheet_70 rfl rfl ?_
  obtain ⟨g1, h⟩ := gdt h
  refine W_iast (q := 181) C sk_181 g1 dX12_sheet_71 ?_
  refine V_aload_n C 0 dX12_sheet_72 rfl rfl ?_
  refine G_X12_sizes (q := 172) C sk_172 q_FL_X12_37 dX12_sheet_73 ?_
  refine V_iload_n C 1 dX12_sheet_76 rfl rfl ?_
  refine V_iload_n C 2 dX12_sheet_77 rfl rfl ?_
  refine V_if_ne C dX12_sheet_78 rfl (fun c2 => ?_) (fun c2 => ?_)
  · replace h := ifn c2 h
    refine V_iload_n C 3 dX12_sheet_85 rfl rfl ?_
    refine V_sub C [0, 1] rfl ?_
    exact v_X12_sheet_86 C X h
  · replace h := ifp c2 h
    refine V_iconst C dX12_sheet_81 kc_i_0 ?_
    refine V_goto C dX12_sheet_82 rfl ?_
    refine V_sub C [0, 1] rfl ?_
    exact v_X12_sheet_86 C X h
def f_X12_sheet_49 (N : Nat) (S : St) (v1 : Int32) (v2 : Int32) (v3 : Int32) : Option (Int32 × St) :=
 (if v2 = 0 then
 f_X12_sheet_65 N S v1 v2 v3
 else
 (if v3 ≤ (24 : Int32) then
 f_X12_sheet_65 N S v1 v2 v3
 else
 bnd2 (f_X12_error S (1 : Int32)) (fun a4 S5 =>
 some (a4, S5))))
set_option maxRecDepth 20000 in
theorem v_X12_sheet_49 {ε : eT} {κ : kT} {N : Nat} (C : Act ε κ cX12_sheet 5 RX12 3) {S : St} {res : (Int32 × St)} (X : RI ε κ (some .int) (some (.int res.1)) res.2) {v1 : Int32} {v2 : Int32} {v3 : Int32} (h : f_X12_sheet_49 N S v1 v2 v3 = some res) : V ε κ 5 49 [(0, .ref (eA ε 172)), (1, .int v1), (2, .int v2), (3, .int v3)] [] (wsOf ε S) 0 0 := by
  unfold f_X12_sheet_49 at h
  refine V_iload_n C 2 dX12_sheet_49 rfl rfl ?_
  refine V_if_eq C dX12_sheet_50 rfl (fun c1 => ?_) (fun c1 => ?_)
  · replace h := ifp c1 h
    exact v_X12_sheet_65 C X h
  · replace h := ifn c1 h
    refine V_iload_n C 3 dX12_sheet_53 rfl rfl ?_
    refine V_bipush C dX12_sheet_54 kc_b_24 ?_
    refine V_icmp_le C dX12_sheet_56 rfl (fun c2 => ?_) (fun c2 => ?_)
    · replace h := ifp c2 h
      exact v_X12_sheet_65 C X h
    · replace h := ifn c2 h
      refine V_aload_n C 0 dX12_sheet_59 rfl rfl ?_
      refine V_iconst C dX12_sheet_60 kc_i_1 ?_
      obtain ⟨a4, S5, e3, h⟩ := bnd2_s h
      refine W_callvi C cf_X12_error (c_X12_error e3) q_ML_X12_60 (ws_X12 sk_172) rfl dX12_sheet_61 (by decide) rfl rfl (Nat.le_of_ble_eq_true rfl) ?_
      exact V_iret C X dX12_sheet_64 ⟨ri_1 h, ri_2 h⟩
def f_X12_sheet_35 (N : Nat) (S : St) (v1 : Int32) (v2 : Int32) (v3 : Int32) : Option (Int32 × St) :=
 (if v2 = 0 then
 f_X12_sheet_49 N S v1 v2 v3
 else
 (if 0 ≤ v3 then
 f_X12_sheet_49 N S v1 v2 v3
 else
 bnd2 (f_X12_error S (3 : Int32)) (fun a4 S5 =>
 some (a4, S5))))
set_option maxRecDepth 20000 in
theorem v_X12_sheet_35 {ε : eT} {κ : kT} {N : Nat} (C : Act ε κ cX12_sheet 5 RX12 3) {S : St} {res : (Int32 × St)} (X : RI ε κ (some .int) (some (.int res.1)) res.2) {v1 : Int32} {v2 : Int32} {v3 : Int32} (h : f_X12_sheet_35 N S v1 v2 v3 = some res) : V ε κ 5 35 [(0, .ref (eA ε 172)), (1, .int v1), (2, .int v2), (3, .int v3)] [] (wsOf ε S) 0 0 := by
  unfold f_X12_sheet_35 at h
  refine V_iload_n C 2 dX12_sheet_35 rfl rfl ?_
  refine V_if_eq C dX12_sheet_36 rfl (fun c1 => ?_) (fun c1 => ?_)
  · replace h := ifp c1 h
    exact v_X12_sheet_49 C X h
  · replace h := ifn c1 h
    refine V_iload_n C 3 dX12_sheet_39 rfl rfl ?_
    refine V_if_ge C dX12_sheet_40 rfl (fun c2 => ?_) (fun c2 => ?_)
    · replace h := ifp c2 h
      exact v_X12_sheet_49 C X h
    · replace h := ifn c2 h
      refine V_aload_n C 0 dX12_sheet_43 rfl rfl ?_
      refine V_iconst C dX12_sheet_44 kc_i_3 ?_
      obtain ⟨a4, S5, e3, h⟩ := bnd2_s h
      refine W_callvi C cf_X12_error (c_X12_error e3) q_ML_X12_60 (ws_X12 sk_172) rfl dX12_sheet_45 (by decide) rfl rfl (Nat.le_of_ble_eq_true rfl) ?_
      exact V_iret C X dX12_sheet_48 ⟨ri_1 h, ri_2 h⟩
def f_X12_sheet (N : Nat) (S : St) (v1 : Int32) (v2 : Int32) (v3 : Int32) : Option (Int32 × St) :=
 bnd (f_X12_isSheet S v1) (fun a2 =>
 (if a2 = 0 then
 f_X12_sheet_29 N S
 else
 (if v2 = 0 then
 f_X12_sheet_35 N S v1 v2 v3
 else
 (if v2 = (8 : Int32) then
 f_X12_sheet_35 N S v1 v2 v3
 else
 (if v2 = (16 : Int32) then
 f_X12_sheet_35 N S v1 v2 v3
 else
 (if v2 = (32 : Int32) then
 f_X12_sheet_35 N S v1 v2 v3
 else
 f_X12_sheet_29 N S))))))
set_option maxRecDepth 20000 in
theorem v_X12_sheet_e {ε : eT} {κ : kT} {N : Nat} (C : Act ε κ cX12_sheet 5 RX12 3) {S : St} {res : (Int32 × St)} (X : RI ε κ (some .int) (some (.int res.1)) res.2) {v1 : Int32} {v2 : Int32} {v3 : Int32} (h : f_X12_sheet N S v1 v2 v3 = some res) : V ε κ 5 0 [(0, .ref (eA ε 172)), (1, .int v1), (2, .int v2), (3, .int v3)] [] (wsOf ε S) 0 0 := by
  unfold f_X12_sheet at h
  refine V_iload_n C 1 dX12_sheet_0 rfl rfl ?_
  obtain ⟨a2, e1, h⟩ := bnd_s h
  refine W_callsi C cf_X12_isSheet (c_X12_isSheet e1) q_ML_X12_279 dX12_sheet_1 (by decide) rfl rfl (Nat.le_of_ble_eq_true rfl) ?_
  refine V_if_eq C dX12_sheet_4 rfl (fun c3 => ?_) (fun c3 => ?_)
  · replace h := ifp c3 h
    refine V_sub C [0] rfl ?_
    exact v_X12_sheet_29 C X h
  · replace h := ifn c3 h
    refine V_iload_n C 2 dX12_sheet_7 rfl rfl ?_
    refine V_if_eq C dX12_sheet_8 rfl (fun c4 => ?_) (fun c4 => ?_)
    · replace h := ifp c4 h
      exact v_X12_sheet_35 C X h
    · replace h := ifn c4 h
      refine V_iload_n C 2 dX12_sheet_11 rfl rfl ?_
      refine V_bipush C dX12_sheet_12 kc_b_8 ?_
      refine V_icmp_eq C dX12_sheet_14 rfl (fun c5 => ?_) (fun c5 => ?_)
      · replace h := ifp c5 h
        exact v_X12_sheet_35 C X h
      · replace h := ifn c5 h
        refine V_iload_n C 2 dX12_sheet_17 rfl rfl ?_
        refine V_bipush C dX12_sheet_18 kc_b_16 ?_
        refine V_icmp_eq C dX12_sheet_20 rfl (fun c6 => ?_) (fun c6 => ?_)
        · replace h := ifp c6 h
          exact v_X12_sheet_35 C X h
        · replace h := ifn c6 h
          refine V_iload_n C 2 dX12_sheet_23 rfl rfl ?_
          refine V_bipush C dX12_sheet_24 kc_b_32 ?_
          refine V_icmp_eq C dX12_sheet_26 rfl (fun c7 => ?_) (fun c7 => ?_)
          · replace h := ifp c7 h
            exact v_X12_sheet_35 C X h
          · replace h := ifn c7 h
            refine V_sub C [0] rfl ?_
            exact v_X12_sheet_29 C X h
theorem c_X12_sheet {ε : eT} {N : Nat} {S : St} {v1 : Int32} {v2 : Int32} {v3 : Int32} {res : (Int32 × St)} (h : f_X12_sheet N S v1 v2 v3 = some res) : CI ε yX12_sheet cX12_sheet 5 (some .int) 3 [.ref (eA ε 172), .int v1, .int v2, .int v3] S (some (.int res.1)) res.2 := CI_of (by decide) (Nat.le_of_ble_eq_true rfl) rfl (fun κ C X => v_X12_sheet_e C X h)
def f_X12_taken (N : Nat) (S : St) (v1 : Int32) (v2 : Int32) (v3 : Int32) : Option (Int64 × St) :=
 bnd (f_X12_isPriced S v1 v2 v3) (fun a2 =>
 (if a2 = 0 then
 bnd2 (f_X12_error S (1 : Int32)) (fun a11 S12 =>
 some ((a11).toInt64, S12))
 else
 bnd (f_X12_allBelow N S v1) (fun a5 =>
 bnd (f_X12_nobody N S v1 v2) (fun a7 =>
 bnd (f_X12_lowest N S (a5 - a7) a5 v3) (fun a9 =>
 some (a9, S))))))
set_option maxRecDepth 20000 in
theorem v_X12_taken_e {ε : eT} {κ : kT} {N : Nat} (C : Act ε κ cX12_taken 6 RX12 4) {S : St} {res : (Int64 × St)} (X : RI ε κ (some .long) (some (.long res.1)) res.2) {v1 : Int32} {v2 : Int32} {v3 : Int32} (h : f_X12_taken N S v1 v2 v3 = some res) : V ε κ 6 0 [(0, .ref (eA ε 172)), (1, .int v1), (2, .int v2), (3, .int v3)] [] (wsOf ε S) 0 0 := by
  unfold f_X12_taken at h
  refine V_aload_n C 0 dX12_taken_0 rfl rfl ?_
  refine V_iload_n C 1 dX12_taken_1 rfl rfl ?_
  refine V_iload_n C 2 dX12_taken_2 rfl rfl ?_
  refine V_iload_n C 3 dX12_taken_3 rfl rfl ?_
  obtain ⟨a2, e1, h⟩ := bnd_s h
  refine W_callvi C cf_X12_isPriced (c_X12_isPriced e1) q_ML_X12_217 (ws_X12 sk_172) rfl dX12_taken_4 (by decide) rfl rfl (Nat.le_of_ble_eq_true rfl) ?_
  refine V_if_ne C dX12_taken_7 rfl (fun c3 => ?_) (fun c3 => ?_)
  · replace h := ifn c3 h
    refine V_aload_n C 0 dX12_taken_17 rfl rfl ?_
    refine V_iload_n C 1 dX12_taken_18 rfl rfl ?_
    obtain ⟨a5, e4, h⟩ := bnd_s h
    refine W_callvl C cf_X12_allBelow (c_X12_allBelow e4) q_ML_X12_207 (ws_X12 sk_172) rfl dX12_taken_19 (by decide) rfl rfl (Nat.le_of_ble_eq_true rfl) ?_
    refine V_lstore (lv' := [(4, .long a5), (0, .ref (eA ε 172)), (1, .int v1), (2, .int v2), (3, .int v3)]) C dX12_taken_22 (by decide) rfl ?_
    refine V_lload C 0 dX12_taken_24 rfl ?_
    refine V_aload_n C 1 dX12_taken_26 rfl rfl ?_
    refine V_iload_n C 2 dX12_taken_27 rfl rfl ?_
    refine V_iload_n C 3 dX12_taken_28 rfl rfl ?_
    obtain ⟨a7, e6, h⟩ := bnd_s h
    refine W_callvl C cf_X12_nobody (c_X12_nobody e6) q_ML_X12_211 (ws_X12 sk_172) rfl dX12_taken_29 (by decide) rfl rfl (Nat.le_of_ble_eq_true rfl) ?_
    refine V_lsub C dX12_taken_32 ?_
    refine V_lload C 0 dX12_taken_33 rfl ?_
    refine V_iload_n C 4 dX12_taken_35 rfl rfl ?_
    obtain ⟨a9, e8, h⟩ := bnd_s h
    refine W_callsl C cf_X12_lowest (c_X12_lowest e8) q_ML_X12_220 dX12_taken_36 (by decide) rfl rfl (Nat.le_of_ble_eq_true rfl) ?_
    exact V_lret C X dX12_taken_39 ⟨rl_1 h, ri_2 h⟩
  · replace h := ifp c3 h
    refine V_aload_n C 0 dX12_taken_10 rfl rfl ?_
    refine V_iconst C dX12_taken_11 kc_i_1 ?_
    obtain ⟨a11, S12, e10, h⟩ := bnd2_s h
    refine W_callvi C cf_X12_error (c_X12_error e10) q_ML_X12_60 (ws_X12 sk_172) rfl dX12_taken_12 (by decide) rfl rfl (Nat.le_of_ble_eq_true rfl) ?_
    refine V_i2l C dX12_taken_15 ?_
    exact V_lret C X dX12_taken_16 ⟨rl_1 h, ri_2 h⟩
theorem c_X12_taken {ε : eT} {N : Nat} {S : St} {v1 : Int32} {v2 : Int32} {v3 : Int32} {res : (Int64 × St)} (h : f_X12_taken N S v1 v2 v3 = some res) : CI ε yX12_taken cX12_taken 6 (some .long) 4 [.ref (eA ε 172), .int v1, .int v2, .int v3] S (some (.long res.1)) res.2 := CI_of (by decide) (Nat.le_of_ble_eq_true rfl) rfl (fun κ C X => v_X12_taken_e C X h)
def f_X12_tell (S : St) (v1 : Int32) : Option (Int32 × St) :=
 (if (S.1 173 7) = (24 : Int32) then
 bnd2 (f_X12_error S (4 : Int32)) (fun a4 S5 =>
 some (a4, S5))
 else
 (if inb ((492 : Int32) + (S.1 173 7)) 516 = true then
 some (((pt (pt S 173 ((492 : Int32) + (S.1 173 7)).toNatClampNeg v1) 173 7 (((pt S 173 ((492 : Int32) + (S.1 173 7)).toNatClampNeg v1).1 173 7) + (1 : Int32))).1 173 7), (pt (pt S 173 ((492 : Int32) + (S.1 173 7)).toNatClampNeg v1) 173 7 (((pt S 173 ((492 : Int32) + (S.1 173 7)).toNatClampNeg v1).1 173 7) + (1 : Int32))))
 else none))
set_option maxRecDepth 20000 in
theorem v_X12_tell_e {ε : eT} {κ : kT} (C : Act ε κ cX12_tell 2 RX12 2) {S : St} {res : (Int32 × St)} (X : RI ε κ (some .int) (some (.int res.1)) res.2) {v1 : Int32} (h : f_X12_tell S v1 = some res) : V ε κ 2 0 [(0, .ref (eA ε 172)), (1, .int v1)] [] (wsOf ε S) 0 0 := by
  unfold f_X12_tell at h
  refine V_aload_n C 0 dX12_tell_0 rfl rfl ?_
  refine G_X12_s (q := 172) C sk_172 q_FL_X12_7 dX12_tell_1 ?_
  refine V_bipush C dX12_tell_4 kc_b_7 ?_
  refine W_ialdc (q := 173) C sk_173 (j := 7) tn_7 (by decide) dX12_tell_6 ?_
  refine V_bipush C dX12_tell_7 kc_b_24 ?_
  refine V_icmp_ne C dX12_tell_9 rfl (fun c1 => ?_) (fun c1 => ?_)
  · replace h := ifn c1 h
    refine V_aload_n C 0 dX12_tell_18 rfl rfl ?_
    refine G_X12_s (q := 172) C sk_172 q_FL_X12_7 dX12_tell_19 ?_
    refine V_sipush C dX12_tell_22 kc_s_492 ?_
    refine V_aload_n C 0 dX12_tell_25 rfl rfl ?_
    refine G_X12_s (q := 172) C sk_172 q_FL_X12_7 dX12_tell_26 ?_
    refine V_bipush C dX12_tell_29 kc_b_7 ?_
    refine W_ialdc (q := 173) C sk_173 (j := 7) tn_7 (by decide) dX12_tell_31 ?_
    refine V_iadd C dX12_tell_32 ?_
    refine V_iload_n C 1 dX12_tell_33 rfl rfl ?_
    obtain ⟨g2, h⟩ := gdt h
    refine W_iast (q := 173) C sk_173 g2 dX12_tell_34 ?_
    refine V_aload_n C 0 dX12_tell_35 rfl rfl ?_
    refine G_X12_s (q := 172) C sk_172 q_FL_X12_7 dX12_tell_36 ?_
    refine V_bipush C dX12_tell_39 kc_b_7 ?_
    refine V_dup2 C dX12_tell_41 rfl rfl ?_
    refine W_ialdc (q := 173) C sk_173 (j := 7) tn_7 (by decide) dX12_tell_42 ?_
    refine V_iconst C dX12_tell_43 kc_i_1 ?_
    refine V_iadd C dX12_tell_44 ?_
    refine W_iastc (q := 173) C sk_173 (j := 7) tn_7 (by decide) dX12_tell_45 ?_
    refine V_aload_n C 0 dX12_tell_46 rfl rfl ?_
    refine G_X12_s (q := 172) C sk_172 q_FL_X12_7 dX12_tell_47 ?_
    refine V_bipush C dX12_tell_50 kc_b_7 ?_
    refine W_ialdc (q := 173) C sk_173 (j := 7) tn_7 (by decide) dX12_tell_52 ?_
    exact V_iret C X dX12_tell_53 ⟨ri_1 h, ri_2 h⟩
  · replace h := ifp c1 h
    refine V_aload_n C 0 dX12_tell_12 rfl rfl ?_
    refine V_iconst C dX12_tell_13 kc_i_4 ?_
    obtain ⟨a4, S5, e3, h⟩ := bnd2_s h
    refine W_callvi C cf_X12_error (c_X12_error e3) q_ML_X12_60 (ws_X12 sk_172) rfl dX12_tell_14 (by decide) rfl rfl (Nat.le_of_ble_eq_true rfl) ?_
    exact V_iret C X dX12_tell_17 ⟨ri_1 h, ri_2 h⟩
theorem c_X12_tell {ε : eT} {S : St} {v1 : Int32} {res : (Int32 × St)} (h : f_X12_tell S v1 = some res) : CI ε yX12_tell cX12_tell 2 (some .int) 2 [.ref (eA ε 172), .int v1] S (some (.int res.1)) res.2 := CI_of (by decide) (Nat.le_of_ble_eq_true rfl) rfl (fun κ C X => v_X12_tell_e C X h)
def f_X12_text_104 (N : Nat) : Nat → St → Int32 → Int32 → Option (Int32 × St)
  | 0, _, _, _ => none
  | n + 1, S, v3, v4 =>
    (if ((2 : Int32) * (S.1 172 7)) ≤ v4 then
     some ((1 : Int32), S)
     else
     (if inb v4 124 = true then
     (if inb ((v3 + (1 : Int32)) + v4) 516 = true then
     f_X12_text_104 N n (pt S 173 ((v3 + (1 : Int32)) + v4).toNatClampNeg (S.1 177 v4.toNatClampNeg)) v3 (v4 + 1)
     else none)
     else none))
set_option maxRecDepth 20000 in
theorem v_X12_text_104 {ε : eT} {κ : kT} {N : Nat} (C : Act ε κ cX12_text 5 RX12 62) {res : (Int32 × St)} (X : RI ε κ (some .int) (some (.int res.1)) res.2) : ∀ (n : Nat) (S : St) (v3 : Int32) (v4 : Int32) (h : f_X12_text_104 N n S v3 v4 = some res), V ε κ 5 104 [(0, .ref (eA ε 172)), (3, .int v3), (4, .int v4)] [] (wsOf ε S) 0 0 := by
  intro n
  induction n with
  | zero => intro S v3 v4 h; cases h
  | succ n ih =>
    intro S v3 v4 h
    rw [f_X12_text_104] at h
    refine V_iload C 2 dX12_text_104 rfl ?_
    refine V_iconst C dX12_text_106 kc_i_2 ?_
    refine V_aload_n C 0 dX12_text_107 rfl rfl ?_
    refine G_X12_steps (q := 172) C sk_172 q_FL_X12_113 dX12_text_108 ?_
    refine V_imul C dX12_text_111 ?_
    refine V_icmp_ge C dX12_text_112 rfl (fun c1 => ?_) (fun c1 => ?_)
    · replace h := ifp c1 h
      refine V_iconst C dX12_text_139 kc_i_1 ?_
      exact V_iret C X dX12_text_140 ⟨ri_1 h, ri_2 h⟩
    · replace h := ifn c1 h
      refine V_aload_n C 0 dX12_text_115 rfl rfl ?_
      refine G_X12_s (q := 172) C sk_172 q_FL_X12_7 dX12_text_116 ?_
      refine V_iload_n C 1 dX12_text_119 rfl rfl ?_
      refine V_iconst C dX12_text_120 kc_i_1 ?_
      refine V_iadd C dX12_text_121 ?_
      refine V_iload C 2 dX12_text_122 rfl ?_
      refine V_iadd C dX12_text_124 ?_
      refine V_aload_n C 0 dX12_text_125 rfl rfl ?_
      refine G_X12_step (q := 172) C sk_172 q_FL_X12_22 dX12_text_126 ?_
      refine V_iload C 2 dX12_text_129 rfl ?_
      obtain ⟨g2, h⟩ := gdt h
      refine W_iald (q := 177) C sk_177 g2 dX12_text_131 ?_
      obtain ⟨g3, h⟩ := gdt h
      refine W_iast (q := 173) C sk_173 g3 dX12_text_132 ?_
      refine V_iinc (v := (v4 + 1)) (lv' := [(4, .int (v4 + 1)), (0, .ref (eA ε 172)), (3, .int v3)]) C 2 dX12_text_133 rfl (congrArg _ kc_i_1) (by decide) rfl ?_
      refine V_goto C dX12_text_136 rfl ?_
      refine V_sub C [1, 2, 0] rfl ?_
      exact ih _ _ _ h
def f_X12_text_61 (N : Nat) (S : St) (v1 : Int32) (s0 : Int32) : Option (Int32 × St) :=
 (if s0 = 0 then
 some (((-10 : Int32) - ((pt S 173 6 (0 : Int32)).1 172 5)), (pt S 173 6 (0 : Int32)))
 else
 (if inb ((182 : Int32) + ((125 : Int32) * v1)) 516 = true then
 f_X12_text_104 N N (pt (pt S 173 6 (0 : Int32)) 173 ((182 : Int32) + ((125 : Int32) * v1)).toNatClampNeg ((pt S 173 6 (0 : Int32)).1 172 7)) ((182 : Int32) + ((125 : Int32) * v1)) (0 : Int32)
 else none))
set_option maxRecDepth 20000 in
theorem v_X12_text_61 {ε : eT} {κ : kT} {N : Nat} (C : Act ε κ cX12_text 5 RX12 62) {S : St} {res : (Int32 × St)} (X : RI ε κ (some .int) (some (.int res.1)) res.2) {v1 : Int32} {s0 : Int32} (h : f_X12_text_61 N S v1 s0 = some res) : V ε κ 5 61 [(0, .ref (eA ε 172)), (1, .int v1)] [.int s0] (wsOf ε S) 0 0 := by
  unfold f_X12_text_61 at h
  refine V_istore_n (lv' := [(2, .int s0), (0, .ref (eA ε 172)), (1, .int v1)]) C dX12_text_61 rfl (by decide) rfl ?_
  refine V_aload_n C 1 dX12_text_62 rfl rfl ?_
  refine G_X12_s (q := 172) C sk_172 q_FL_X12_7 dX12_text_63 ?_
  refine V_bipush C dX12_text_66 kc_b_6 ?_
  refine V_iconst C dX12_text_68 kc_i_0 ?_
  refine W_iastc (q := 173) C sk_173 (j := 6) tn_6 (by decide) dX12_text_69 ?_
  refine V_iload_n C 0 dX12_text_70 rfl rfl ?_
  refine V_if_ne C dX12_text_71 rfl (fun c1 => ?_) (fun c1 => ?_)
  · replace h := ifn c1 h
    refine V_sipush C dX12_text_82 kc_s_182 ?_
    refine V_bipush C dX12_text_85 kc_b_125 ?_
    refine V_iload_n C 2 dX12_text_87 rfl rfl ?_
    refine V_imul C dX12_text_88 ?_
    refine V_iadd C dX12_text_89 ?_
    refine V_istore_n (lv' := [(3, .int ((182 : Int32) + ((125 : Int32) * v1))), (2, .int s0), (0, .ref (eA ε 172)), (1, .int v1)]) C dX12_text_90 rfl (by decide) rfl ?_
    refine V_aload_n C 2 dX12_text_91 rfl rfl ?_
    refine G_X12_s (q := 172) C sk_172 q_FL_X12_7 dX12_text_92 ?_
    refine V_iload_n C 0 dX12_text_95 rfl rfl ?_
    refine V_aload_n C 2 dX12_text_96 rfl rfl ?_
    refine G_X12_steps (q := 172) C sk_172 q_FL_X12_113 dX12_text_97 ?_
    obtain ⟨g2, h⟩ := gdt h
    refine W_iast (q := 173) C sk_173 g2 dX12_text_100 ?_
    refine V_iconst C dX12_text_101 kc_i_0 ?_
    refine V_istore (lv' := [(4, .int (0 : Int32)), (3, .int ((182 : Int32) + ((125 : Int32) * v1))), (2, .int s0), (0, .ref (eA ε 172)), (1, .int v1)]) C dX12_text_102 (by decide) rfl ?_
    refine V_sub C [3, 1, 0] rfl ?_
    exact v_X12_text_104 C X N _ _ _ h
  · replace h := ifp c1 h
    refine V_bipush C dX12_text_74 kc_b_m10 ?_
    refine V_aload_n C 1 dX12_text_76 rfl rfl ?_
    refine G_X12_at (q := 172) C sk_172 q_FL_X12_106 dX12_text_77 ?_
    refine V_isub C dX12_text_80 ?_
    exact V_iret C X dX12_text_81 ⟨ri_1 h, ri_2 h⟩
def f_X12_text_60 (N : Nat) (S : St) (v1 : Int32) : Option (Int32 × St) :=
 f_X12_text_61 N S v1 (0 : Int32)
set_option maxRecDepth 20000 in
theorem v_X12_text_60 {ε : eT} {κ : kT} {N : Nat} (C : Act ε κ cX12_text 5 RX12 62) {S : St} {res : (Int32 × St)} (X : RI ε κ (some .int) (some (.int res.1)) res.2) {v1 : Int32} (h : f_X12_text_60 N S v1 = some res) : V ε κ 5 60 [(0, .ref (eA ε 172)), (1, .int v1)] [] (wsOf ε S) 0 0 := by
  unfold f_X12_text_60 at h
  refine V_iconst C dX12_text_60 kc_i_0 ?_
  exact v_X12_text_61 C X h
def f_X12_text (N : Nat) (S : St) (v1 : Int32) : Option (Int32 × St) :=
 bnd (f_X12_in S v1 (0 : Int32) (1 : Int32)) (fun a2 =>
 (if a2 = 0 then
 bnd2 (f_X12_error S (1 : Int32)) (fun a10 S11 =>
 some (a10, S11))
 else
 bnd2 (f_X12_whole N (f_X12_one N 8) (pt (pt (pt (pt S 172 8 v1) 172 5 (0 : Int32)) 172 6 (0 : Int32)) 172 7 (0 : Int32))) (fun a5 S6 =>
 (if a5 = 0 then
 f_X12_text_60 N S6 v1
 else
 (if (S6.1 172 5) = (S6.1 173 6) then
 f_X12_text_61 N S6 v1 (1 : Int32)
 else
 f_X12_text_60 N S6 v1)))))
set_option maxRecDepth 20000 in
theorem v_X12_text_e {ε : eT} {κ : kT} {N : Nat} (C : Act ε κ cX12_text 5 RX12 62) {S : St} {res : (Int32 × St)} (X : RI ε κ (some .int) (some (.int res.1)) res.2) {v1 : Int32} (h : f_X12_text N S v1 = some res) : V ε κ 5 0 [(0, .ref (eA ε 172)), (1, .int v1)] [] (wsOf ε S) 0 0 := by
  unfold f_X12_text at h
  refine V_iload_n C 1 dX12_text_0 rfl rfl ?_
  refine V_iconst C dX12_text_1 kc_i_0 ?_
  refine V_iconst C dX12_text_2 kc_i_1 ?_
  obtain ⟨a2, e1, h⟩ := bnd_s h
  refine W_callsi C cf_X12_in (c_X12_in e1) q_ML_X12_47 dX12_text_3 (by decide) rfl rfl (Nat.le_of_ble_eq_true rfl) ?_
  refine V_if_ne C dX12_text_6 rfl (fun c3 => ?_) (fun c3 => ?_)
  · replace h := ifn c3 h
    refine V_aload_n C 0 dX12_text_15 rfl rfl ?_
    refine V_iload_n C 1 dX12_text_16 rfl rfl ?_
    refine P_X12_use (q := 172) C sk_172 q_FL_X12_110 dX12_text_17 ?_
    refine V_aload_n C 0 dX12_text_20 rfl rfl ?_
    refine V_iconst C dX12_text_21 kc_i_0 ?_
    refine P_X12_at (q := 172) C sk_172 q_FL_X12_106 dX12_text_22 ?_
    refine V_aload_n C 0 dX12_text_25 rfl rfl ?_
    refine V_iconst C dX12_text_26 kc_i_0 ?_
    refine P_X12_open (q := 172) C sk_172 q_FL_X12_140 dX12_text_27 ?_
    refine V_aload_n C 0 dX12_text_30 rfl rfl ?_
    refine V_iconst C dX12_text_31 kc_i_0 ?_
    refine P_X12_steps (q := 172) C sk_172 q_FL_X12_113 dX12_text_32 ?_
    refine V_aload_n C 0 dX12_text_35 rfl rfl ?_
    obtain ⟨a5, S6, e4, h⟩ := bnd2_s h
    refine W_callvi C cf_X12_whole (c_X12_whole (e := 8 + 6 * 8) (fun _ _ h => c_X12_one 8 h) (by decide) e4) q_ML_X12_149 (ws_X12 sk_172) rfl dX12_text_36 (by decide) rfl rfl (Nat.le_of_ble_eq_true rfl) ?_
    refine V_if_eq C dX12_text_39 rfl (fun c7 => ?_) (fun c7 => ?_)
    · replace h := ifp c7 h
      exact v_X12_text_60 C X h
    · replace h := ifn c7 h
      refine V_aload_n C 0 dX12_text_42 rfl rfl ?_
      refine G_X12_at (q := 172) C sk_172 q_FL_X12_106 dX12_text_43 ?_
      refine V_aload_n C 0 dX12_text_46 rfl rfl ?_
      refine G_X12_s (q := 172) C sk_172 q_FL_X12_7 dX12_text_47 ?_
      refine V_bipush C dX12_text_50 kc_b_6 ?_
      refine W_ialdc (q := 173) C sk_173 (j := 6) tn_6 (by decide) dX12_text_52 ?_
      refine V_icmp_ne C dX12_text_53 rfl (fun c8 => ?_) (fun c8 => ?_)
      · replace h := ifn c8 h
        exact v_X12_text_60 C X h
      · replace h := ifp c8 h
        refine V_iconst C dX12_text_56 kc_i_1 ?_
        refine V_goto C dX12_text_57 rfl ?_
        exact v_X12_text_61 C X h
  · replace h := ifp c3 h
    refine V_aload_n C 0 dX12_text_9 rfl rfl ?_
    refine V_iconst C dX12_text_10 kc_i_1 ?_
    obtain ⟨a10, S11, e9, h⟩ := bnd2_s h
    refine W_callvi C cf_X12_error (c_X12_error e9) q_ML_X12_60 (ws_X12 sk_172) rfl dX12_text_11 (by decide) rfl rfl (Nat.le_of_ble_eq_true rfl) ?_
    exact V_iret C X dX12_text_14 ⟨ri_1 h, ri_2 h⟩
theorem c_X12_text {ε : eT} {N : Nat} {S : St} {v1 : Int32} {res : (Int32 × St)} (h : f_X12_text N S v1 = some res) : CI ε yX12_text cX12_text 5 (some .int) 62 [.ref (eA ε 172), .int v1] S (some (.int res.1)) res.2 := CI_of (by decide) (Nat.le_of_ble_eq_true rfl) rfl (fun κ C X => v_X12_text_e C X h)
def f_X12_then_20 (N : Nat) (S : St) : Option (Int32 × St) :=
 bnd2 (f_X12_error S (1 : Int32)) (fun a2 S3 =>
 some (a2, S3))
set_option maxRecDepth 20000 in
theorem v_X12_then_20 {ε : eT} {κ : kT} {N : Nat} (C : Act ε κ cX12_then 4 RX12 12) {S : St} {res : (Int32 × St)} (X : RI ε κ (some .int) (some (.int res.1)) res.2) (h : f_X12_then_20 N S = some res) : V ε κ 4 20 [(0, .ref (eA ε 172))] [] (wsOf ε S) 0 0 := by
  unfold f_X12_then_20 at h
  refine V_aload_n C 0 dX12_then_20 rfl rfl ?_
  refine V_iconst C dX12_then_21 kc_i_1 ?_
  obtain ⟨a2, S3, e1, h⟩ := bnd2_s h
  refine W_callvi C cf_X12_error (c_X12_error e1) q_ML_X12_60 (ws_X12 sk_172) rfl dX12_then_22 (by decide) rfl rfl (Nat.le_of_ble_eq_true rfl) ?_
  exact V_iret C X dX12_then_25 ⟨ri_1 h, ri_2 h⟩
def f_X12_then (N : Nat) (S : St) (v1 : Int32) (v2 : Int32) : Option (Int32 × St) :=
 bnd (f_X12_in S v1 (0 : Int32) (40 : Int32)) (fun a2 =>
 (if a2 = 0 then
 f_X12_then_20 N S
 else
 bnd (f_X12_in S v2 (0 : Int32) (6 : Int32)) (fun a5 =>
 (if a5 = 0 then
 f_X12_then_20 N S
 else
 bnd (f_X12_lay N S 173 175) (fun S8 =>
 bnd (f_X12_go N S8 v1) (fun S10 =>
 bnd (f_X12_townOf N S10 v2) (fun a12 =>
 bnd (f_X12_lay N S10 175 173) (fun S14 =>
 some (a12, S14)))))))))
set_option maxRecDepth 20000 in
theorem v_X12_then_e {ε : eT} {κ : kT} {N : Nat} (C : Act ε κ cX12_then 4 RX12 12) {S : St} {res : (Int32 × St)} (X : RI ε κ (some .int) (some (.int res.1)) res.2) {v1 : Int32} {v2 : Int32} (h : f_X12_then N S v1 v2 = some res) : V ε κ 4 0 [(0, .ref (eA ε 172)), (1, .int v1), (2, .int v2)] [] (wsOf ε S) 0 0 := by
  unfold f_X12_then at h
  refine V_iload_n C 1 dX12_then_0 rfl rfl ?_
  refine V_iconst C dX12_then_1 kc_i_0 ?_
  refine V_bipush C dX12_then_2 kc_b_40 ?_
  obtain ⟨a2, e1, h⟩ := bnd_s h
  refine W_callsi C cf_X12_in (c_X12_in e1) q_ML_X12_47 dX12_then_4 (by decide) rfl rfl (Nat.le_of_ble_eq_true rfl) ?_
  refine V_if_eq C dX12_then_7 rfl (fun c3 => ?_) (fun c3 => ?_)
  · replace h := ifp c3 h
    refine V_sub C [0] rfl ?_
    exact v_X12_then_20 C X h
  · replace h := ifn c3 h
    refine V_iload_n C 2 dX12_then_10 rfl rfl ?_
    refine V_iconst C dX12_then_11 kc_i_0 ?_
    refine V_bipush C dX12_then_12 kc_b_6 ?_
    obtain ⟨a5, e4, h⟩ := bnd_s h
    refine W_callsi C cf_X12_in (c_X12_in e4) q_ML_X12_47 dX12_then_14 (by decide) rfl rfl (Nat.le_of_ble_eq_true rfl) ?_
    refine V_if_ne C dX12_then_17 rfl (fun c6 => ?_) (fun c6 => ?_)
    · replace h := ifn c6 h
      refine V_aload_n C 0 dX12_then_26 rfl rfl ?_
      refine G_X12_s (q := 172) C sk_172 q_FL_X12_7 dX12_then_27 ?_
      refine V_aload_n C 0 dX12_then_30 rfl rfl ?_
      refine G_X12_put (q := 172) C sk_172 q_FL_X12_16 dX12_then_31 ?_
      obtain ⟨S8, e7, h⟩ := bnd_s h
      refine W_callsn C cf_X12_lay (c_X12_lay sk_173 sk_175 e7) q_ML_X12_241 dX12_then_34 (by decide) rfl rfl (Nat.le_of_ble_eq_true rfl) ?_
      refine V_aload_n C 0 dX12_then_37 rfl rfl ?_
      refine V_iload_n C 1 dX12_then_38 rfl rfl ?_
      obtain ⟨S10, e9, h⟩ := bnd_s h
      refine W_callvn C cf_X12_go (c_X12_go e9) q_ML_X12_204 (ws_X12 sk_172) rfl dX12_then_39 (by decide) rfl rfl (Nat.le_of_ble_eq_true rfl) ?_
      refine V_aload_n C 0 dX12_then_42 rfl rfl ?_
      refine V_iload_n C 2 dX12_then_43 rfl rfl ?_
      obtain ⟨a12, e11, h⟩ := bnd_s h
      refine W_callvi C cf_X12_townOf (c_X12_townOf e11) q_ML_X12_238 (ws_X12 sk_172) rfl dX12_then_44 (by decide) rfl rfl (Nat.le_of_ble_eq_true rfl) ?_
      refine V_istore_n (lv' := [(3, .int a12), (0, .ref (eA ε 172)), (1, .int v1), (2, .int v2)]) C dX12_then_47 rfl (by decide) rfl ?_
      refine V_aload_n C 1 dX12_then_48 rfl rfl ?_
      refine G_X12_put (q := 172) C sk_172 q_FL_X12_16 dX12_then_49 ?_
      refine V_aload_n C 1 dX12_then_52 rfl rfl ?_
      refine G_X12_s (q := 172) C sk_172 q_FL_X12_7 dX12_then_53 ?_
      obtain ⟨S14, e13, h⟩ := bnd_s h
      refine W_callsn C cf_X12_lay (c_X12_lay sk_175 sk_173 e13) q_ML_X12_241 dX12_then_56 (by decide) rfl rfl (Nat.le_of_ble_eq_true rfl) ?_
      refine V_iload_n C 0 dX12_then_59 rfl rfl ?_
      exact V_iret C X dX12_then_60 ⟨ri_1 h, ri_2 h⟩
    · replace h := ifp c6 h
      refine V_sub C [0] rfl ?_
      exact v_X12_then_20 C X h
theorem c_X12_then {ε : eT} {N : Nat} {S : St} {v1 : Int32} {v2 : Int32} {res : (Int32 × St)} (h : f_X12_then N S v1 v2 = some res) : CI ε yX12_then cX12_then 4 (some .int) 12 [.ref (eA ε 172), .int v1, .int v2] S (some (.int res.1)) res.2 := CI_of (by decide) (Nat.le_of_ble_eq_true rfl) rfl (fun κ C X => v_X12_then_e C X h)
def f_X12_thing_19 (S : St) : Option (Int32 × St) :=
 bnd2 (f_X12_error S (1 : Int32)) (fun a2 S3 =>
 some (a2, S3))
set_option maxRecDepth 20000 in
theorem v_X12_thing_19 {ε : eT} {κ : kT} (C : Act ε κ cX12_thing 4 RX12 3) {S : St} {res : (Int32 × St)} (X : RI ε κ (some .int) (some (.int res.1)) res.2) (h : f_X12_thing_19 S = some res) : V ε κ 4 19 [(0, .ref (eA ε 172))] [] (wsOf ε S) 0 0 := by
  unfold f_X12_thing_19 at h
  refine V_aload_n C 0 dX12_thing_19 rfl rfl ?_
  refine V_iconst C dX12_thing_20 kc_i_1 ?_
  obtain ⟨a2, S3, e1, h⟩ := bnd2_s h
  refine W_callvi C cf_X12_error (c_X12_error e1) q_ML_X12_60 (ws_X12 sk_172) rfl dX12_thing_21 (by decide) rfl rfl (Nat.le_of_ble_eq_true rfl) ?_
  exact V_iret C X dX12_thing_24 ⟨ri_1 h, ri_2 h⟩
def f_X12_thing (S : St) (v1 : Int32) (v2 : Int32) : Option (Int32 × St) :=
 bnd (f_X12_isPerson S v1) (fun a2 =>
 (if a2 = 0 then
 f_X12_thing_19 S
 else
 bnd (f_X12_in S v2 (0 : Int32) (9999 : Int32)) (fun a5 =>
 (if a5 = 0 then
 f_X12_thing_19 S
 else
 (if (S.1 173 1) = (12 : Int32) then
 bnd2 (f_X12_error S (4 : Int32)) (fun a13 S14 =>
 some (a13, S14))
 else
 (if inb (((44 : Int32) + ((4 : Int32) * (S.1 173 1))) + (0 : Int32)) 516 = true then
 (if inb (((44 : Int32) + ((4 : Int32) * (S.1 173 1))) + (1 : Int32)) 516 = true then
 (if inb (((44 : Int32) + ((4 : Int32) * (S.1 173 1))) + (2 : Int32)) 516 = true then
 (if inb (((44 : Int32) + ((4 : Int32) * (S.1 173 1))) + (3 : Int32)) 516 = true then
 some ((((pt (pt (pt (pt (pt S 173 (((44 : Int32) + ((4 : Int32) * (S.1 173 1))) + (0 : Int32)).toNatClampNeg v1) 173 (((44 : Int32) + ((4 : Int32) * (S.1 173 1))) + (1 : Int32)).toNatClampNeg v2) 173 (((44 : Int32) + ((4 : Int32) * (S.1 173 1))) + (2 : Int32)).toNatClampNeg (100 : Int32)) 173 (((44 : Int32) + ((4 : Int32) * (S.1 173 1))) + (3 : Int32)).toNatClampNeg (0 : Int32)) 173 1 (((pt (pt (pt (pt S 173 (((44 : Int32) + ((4 : Int32) * (S.1 173 1))) + (0 : Int32)).toNatClampNeg v1) 173 (((44 : Int32) + ((4 : Int32) * (S.1 173 1))) + (1 : Int32)).toNatClampNeg v2) 173 (((44 : Int32) + ((4 : Int32) * (S.1 173 1))) + (2 : Int32)).toNatClampNeg (100 : Int32)) 173 (((44 : Int32) + ((4 : Int32) * (S.1 173 1))) + (3 : Int32)).toNatClampNeg (0 : Int32)).1 173 1) + (1 : Int32))).1 173 1) - (1 : Int32)), (pt (pt (pt (pt (pt S 173 (((44 : Int32) + ((4 : Int32) * (S.1 173 1))) + (0 : Int32)).toNatClampNeg v1) 173 (((44 : Int32) + ((4 : Int32) * (S.1 173 1))) + (1 : Int32)).toNatClampNeg v2) 173 (((44 : Int32) + ((4 : Int32) * (S.1 173 1))) + (2 : Int32)).toNatClampNeg (100 : Int32)) 173 (((44 : Int32) + ((4 : Int32) * (S.1 173 1))) + (3 : Int32)).toNatClampNeg (0 : Int32)) 173 1 (((pt (pt (pt (pt S 173 (((44 : Int32) + ((4 : Int32) * (S.1 173 1))) + (0 : Int32)).toNatClampNeg v1) 173 (((44 : Int32) + ((4 : Int32) * (S.1 173 1))) + (1 : Int32)).toNatClampNeg v2) 173 (((44 : Int32) + ((4 : Int32) * (S.1 173 1))) + (2 : Int32)).toNatClampNeg (100 : Int32)) 173 (((44 : Int32) + ((4 : Int32) * (S.1 173 1))) + (3 : Int32)).toNatClampNeg (0 : Int32)).1 173 1) + (1 : Int32))))
 else none)
 else none)
 else none)
 else none))))))
set_option maxRecDepth 20000 in
theorem v_X12_thing_e {ε : eT} {κ : kT} (C : Act ε κ cX12_thing 4 RX12 3) {S : St} {res : (Int32 × St)} (X : RI ε κ (some .int) (some (.int res.1)) res.2) {v1 : Int32} {v2 : Int32} (h : f_X12_thing S v1 v2 = some res) : V ε κ 4 0 [(0, .ref (eA ε 172)), (1, .int v1), (2, .int v2)] [] (wsOf ε S) 0 0 := by
  unfold f_X12_thing at h
  refine V_aload_n C 0 dX12_thing_0 rfl rfl ?_
  refine V_iload_n C 1 dX12_thing_1 rfl rfl ?_
  obtain ⟨a2, e1, h⟩ := bnd_s h
  refine W_callvi C cf_X12_isPerson (c_X12_isPerson e1) q_ML_X12_76 (ws_X12 sk_172) rfl dX12_thing_2 (by decide) rfl rfl (Nat.le_of_ble_eq_true rfl) ?_
  refine V_if_eq C dX12_thing_5 rfl (fun c3 => ?_) (fun c3 => ?_)
  · replace h := ifp c3 h
    refine V_sub C [0] rfl ?_
    exact v_X12_thing_19 C X h
  · replace h := ifn c3 h
    refine V_iload_n C 2 dX12_thing_8 rfl rfl ?_
    refine V_iconst C dX12_thing_9 kc_i_0 ?_
    refine V_sipush C dX12_thing_10 kc_s_9999 ?_
    obtain ⟨a5, e4, h⟩ := bnd_s h
    refine W_callsi C cf_X12_in (c_X12_in e4) q_ML_X12_47 dX12_thing_13 (by decide) rfl rfl (Nat.le_of_ble_eq_true rfl) ?_
    refine V_if_ne C dX12_thing_16 rfl (fun c6 => ?_) (fun c6 => ?_)
    · replace h := ifn c6 h
      refine V_aload_n C 0 dX12_thing_25 rfl rfl ?_
      refine G_X12_s (q := 172) C sk_172 q_FL_X12_7 dX12_thing_26 ?_
      refine V_iconst C dX12_thing_29 kc_i_1 ?_
      refine W_ialdc (q := 173) C sk_173 (j := 1) tn_1 (by decide) dX12_thing_30 ?_
      refine V_bipush C dX12_thing_31 kc_b_12 ?_
      refine V_icmp_ne C dX12_thing_33 rfl (fun c7 => ?_) (fun c7 => ?_)
      · replace h := ifn c7 h
        refine V_bipush C dX12_thing_42 kc_b_44 ?_
        refine V_iconst C dX12_thing_44 kc_i_4 ?_
        refine V_aload_n C 0 dX12_thing_45 rfl rfl ?_
        refine G_X12_s (q := 172) C sk_172 q_FL_X12_7 dX12_thing_46 ?_
        refine V_iconst C dX12_thing_49 kc_i_1 ?_
        refine W_ialdc (q := 173) C sk_173 (j := 1) tn_1 (by decide) dX12_thing_50 ?_
        refine V_imul C dX12_thing_51 ?_
        refine V_iadd C dX12_thing_52 ?_
        refine V_istore_n (lv' := [(3, .int ((44 : Int32) + ((4 : Int32) * (S.1 173 1)))), (0, .ref (eA ε 172)), (1, .int v1), (2, .int v2)]) C dX12_thing_53 rfl (by decide) rfl ?_
        refine V_aload_n C 1 dX12_thing_54 rfl rfl ?_
        refine G_X12_s (q := 172) C sk_172 q_FL_X12_7 dX12_thing_55 ?_
        refine V_iload_n C 0 dX12_thing_58 rfl rfl ?_
        refine V_iconst C dX12_thing_59 kc_i_0 ?_
        refine V_iadd C dX12_thing_60 ?_
        refine V_iload_n C 2 dX12_thing_61 rfl rfl ?_
        obtain ⟨g8, h⟩ := gdt h
        refine W_iast (q := 173) C sk_173 g8 dX12_thing_62 ?_
        refine V_aload_n C 1 dX12_thing_63 rfl rfl ?_
        refine G_X12_s (q := 172) C sk_172 q_FL_X12_7 dX12_thing_64 ?_
        refine V_iload_n C 0 dX12_thing_67 rfl rfl ?_
        refine V_iconst C dX12_thing_68 kc_i_1 ?_
        refine V_iadd C dX12_thing_69 ?_
        refine V_iload_n C 3 dX12_thing_70 rfl rfl ?_
        obtain ⟨g9, h⟩ := gdt h
        refine W_iast (q := 173) C sk_173 g9 dX12_thing_71 ?_
        refine V_aload_n C 1 dX12_thing_72 rfl rfl ?_
        refine G_X12_s (q := 172) C sk_172 q_FL_X12_7 dX12_thing_73 ?_
        refine V_iload_n C 0 dX12_thing_76 rfl rfl ?_
        refine V_iconst C dX12_thing_77 kc_i_2 ?_
        refine V_iadd C dX12_thing_78 ?_
        refine V_bipush C dX12_thing_79 kc_b_100 ?_
        obtain ⟨g10, h⟩ := gdt h
        refine W_iast (q := 173) C sk_173 g10 dX12_thing_81 ?_
        refine V_aload_n C 1 dX12_thing_82 rfl rfl ?_
        refine G_X12_s (q := 172) C sk_172 q_FL_X12_7 dX12_thing_83 ?_
        refine V_iload_n C 0 dX12_thing_86 rfl rfl ?_
        refine V_iconst C dX12_thing_87 kc_i_3 ?_
        refine V_iadd C dX12_thing_88 ?_
        refine V_iconst C dX12_thing_89 kc_i_0 ?_
        obtain ⟨g11, h⟩ := gdt h
        refine W_iast (q := 173) C sk_173 g11 dX12_thing_90 ?_
        refine V_aload_n C 1 dX12_thing_91 rfl rfl ?_
        refine G_X12_s (q := 172) C sk_172 q_FL_X12_7 dX12_thing_92 ?_
        refine V_iconst C dX12_thing_95 kc_i_1 ?_
        refine V_dup2 C dX12_thing_96 rfl rfl ?_
        refine W_ialdc (q := 173) C sk_173 (j := 1) tn_1 (by decide) dX12_thing_97 ?_
        refine V_iconst C dX12_thing_98 kc_i_1 ?_
        refine V_iadd C dX12_thing_99 ?_
        refine W_iastc (q := 173) C sk_173 (j := 1) tn_1 (by decide) dX12_thing_100 ?_
        refine V_aload_n C 1 dX12_thing_101 rfl rfl ?_
        refine G_X12_s (q := 172) C sk_172 q_FL_X12_7 dX12_thing_102 ?_
        refine V_iconst C dX12_thing_105 kc_i_1 ?_
        refine W_ialdc (q := 173) C sk_173 (j := 1) tn_1 (by decide) dX12_thing_106 ?_
        refine V_iconst C dX12_thing_107 kc_i_1 ?_
        refine V_isub C dX12_thing_108 ?_
        exact V_iret C X dX12_thing_109 ⟨ri_1 h, ri_2 h⟩
      · replace h := ifp c7 h
        refine V_aload_n C 0 dX12_thing_36 rfl rfl ?_
        refine V_iconst C dX12_thing_37 kc_i_4 ?_
        obtain ⟨a13, S14, e12, h⟩ := bnd2_s h
        refine W_callvi C cf_X12_error (c_X12_error e12) q_ML_X12_60 (ws_X12 sk_172) rfl dX12_thing_38 (by decide) rfl rfl (Nat.le_of_ble_eq_true rfl) ?_
        exact V_iret C X dX12_thing_41 ⟨ri_1 h, ri_2 h⟩
    · replace h := ifp c6 h
      refine V_sub C [0] rfl ?_
      exact v_X12_thing_19 C X h
theorem c_X12_thing {ε : eT} {S : St} {v1 : Int32} {v2 : Int32} {res : (Int32 × St)} (h : f_X12_thing S v1 v2 = some res) : CI ε yX12_thing cX12_thing 4 (some .int) 3 [.ref (eA ε 172), .int v1, .int v2] S (some (.int res.1)) res.2 := CI_of (by decide) (Nat.le_of_ble_eq_true rfl) rfl (fun κ C X => v_X12_thing_e C X h)
def f_X12_thingIs_17 (N : Nat) (S : St) : Option (Int32 × St) :=
 bnd2 (f_X12_error S (1 : Int32)) (fun a2 S3 =>
 some (a2, S3))
set_option maxRecDepth 20000 in
theorem v_X12_thingIs_17 {ε : eT} {κ : kT} {N : Nat} (C : Act ε κ cX12_thingIs 3 RX12 4) {S : St} {res : (Int32 × St)} (X : RI ε κ (some .int) (some (.int res.1)) res.2) (h : f_X12_thingIs_17 N S = some res) : V ε κ 3 17 [(0, .ref (eA ε 172))] [] (wsOf ε S) 0 0 := by
  unfold f_X12_thingIs_17 at h
  refine V_aload_n C 0 dX12_thingIs_17 rfl rfl ?_
  refine V_iconst C dX12_thingIs_18 kc_i_1 ?_
  obtain ⟨a2, S3, e1, h⟩ := bnd2_s h
  refine W_callvi C cf_X12_error (c_X12_error e1) q_ML_X12_60 (ws_X12 sk_172) rfl dX12_thingIs_19 (by decide) rfl rfl (Nat.le_of_ble_eq_true rfl) ?_
  exact V_iret C X dX12_thingIs_22 ⟨ri_1 h, ri_2 h⟩
def f_X12_thingIs (N : Nat) (S : St) (v1 : Int32) (v2 : Int32) : Option (Int32 × St) :=
 bnd (f_X12_isThing S v1) (fun a2 =>
 (if a2 = 0 then
 f_X12_thingIs_17 N S
 else
 bnd (f_X12_in S v2 (0 : Int32) (5 : Int32)) (fun a5 =>
 (if a5 = 0 then
 f_X12_thingIs_17 N S
 else
 (if (4 : Int32) ≤ v2 then
 (if v2 = (4 : Int32) then
 bnd (f_X12_owner S v1) (fun a12 =>
 bnd (f_X12_valueTo S a12 v1) (fun a14 =>
 some (a14, S)))
 else
 bnd (f_X12_fondest N S v1) (fun a10 =>
 some (a10, S)))
 else
 bnd (f_X12_its S v1 v2) (fun a16 =>
 some (a16, S)))))))
set_option maxRecDepth 20000 in
theorem v_X12_thingIs_e {ε : eT} {κ : kT} {N : Nat} (C : Act ε κ cX12_thingIs 3 RX12 4) {S : St} {res : (Int32 × St)} (X : RI ε κ (some .int) (some (.int res.1)) res.2) {v1 : Int32} {v2 : Int32} (h : f_X12_thingIs N S v1 v2 = some res) : V ε κ 3 0 [(0, .ref (eA ε 172)), (1, .int v1), (2, .int v2)] [] (wsOf ε S) 0 0 := by
  unfold f_X12_thingIs at h
  refine V_aload_n C 0 dX12_thingIs_0 rfl rfl ?_
  refine V_iload_n C 1 dX12_thingIs_1 rfl rfl ?_
  obtain ⟨a2, e1, h⟩ := bnd_s h
  refine W_callvi C cf_X12_isThing (c_X12_isThing e1) q_ML_X12_92 (ws_X12 sk_172) rfl dX12_thingIs_2 (by decide) rfl rfl (Nat.le_of_ble_eq_true rfl) ?_
  refine V_if_eq C dX12_thingIs_5 rfl (fun c3 => ?_) (fun c3 => ?_)
  · replace h := ifp c3 h
    refine V_sub C [0] rfl ?_
    exact v_X12_thingIs_17 C X h
  · replace h := ifn c3 h
    refine V_iload_n C 2 dX12_thingIs_8 rfl rfl ?_
    refine V_iconst C dX12_thingIs_9 kc_i_0 ?_
    refine V_iconst C dX12_thingIs_10 kc_i_5 ?_
    obtain ⟨a5, e4, h⟩ := bnd_s h
    refine W_callsi C cf_X12_in (c_X12_in e4) q_ML_X12_47 dX12_thingIs_11 (by decide) rfl rfl (Nat.le_of_ble_eq_true rfl) ?_
    refine V_if_ne C dX12_thingIs_14 rfl (fun c6 => ?_) (fun c6 => ?_)
    · replace h := ifn c6 h
      refine V_iload_n C 2 dX12_thingIs_23 rfl rfl ?_
      refine V_iconst C dX12_thingIs_24 kc_i_4 ?_
      refine V_icmp_ge C dX12_thingIs_25 rfl (fun c7 => ?_) (fun c7 => ?_)
      · replace h := ifp c7 h
        refine V_iload_n C 2 dX12_thingIs_37 rfl rfl ?_
        refine V_iconst C dX12_thingIs_38 kc_i_4 ?_
        refine V_icmp_ne C dX12_thingIs_39 rfl (fun c8 => ?_) (fun c8 => ?_)
        · replace h := ifn c8 h
          refine V_aload_n C 0 dX12_thingIs_55 rfl rfl ?_
          refine V_iload_n C 1 dX12_thingIs_56 rfl rfl ?_
          obtain ⟨a10, e9, h⟩ := bnd_s h
          refine W_callvi C cf_X12_fondest (c_X12_fondest e9) q_ML_X12_95 (ws_X12 sk_172) rfl dX12_thingIs_57 (by decide) rfl rfl (Nat.le_of_ble_eq_true rfl) ?_
          exact V_iret C X dX12_thingIs_60 ⟨ri_1 h, ri_2 h⟩
        · replace h := ifp c8 h
          refine V_aload_n C 0 dX12_thingIs_42 rfl rfl ?_
          refine V_aload_n C 0 dX12_thingIs_43 rfl rfl ?_
          refine V_iload_n C 1 dX12_thingIs_44 rfl rfl ?_
          obtain ⟨a12, e11, h⟩ := bnd_s h
          refine W_callvi C cf_X12_owner (c_X12_owner e11) q_ML_X12_67 (ws_X12 sk_172) rfl dX12_thingIs_45 (by decide) rfl rfl (Nat.le_of_ble_eq_true rfl) ?_
          refine V_iload_n C 1 dX12_thingIs_48 rfl rfl ?_
          obtain ⟨a14, e13, h⟩ := bnd_s h
          refine W_callvi C cf_X12_valueTo (c_X12_valueTo e13) q_ML_X12_73 (ws_X12 sk_172) rfl dX12_thingIs_49 (by decide) rfl rfl (Nat.le_of_ble_eq_true rfl) ?_
          refine V_goto C dX12_thingIs_52 rfl ?_
          exact V_iret C X dX12_thingIs_60 ⟨ri_1 h, ri_2 h⟩
      · replace h := ifn c7 h
        refine V_aload_n C 0 dX12_thingIs_28 rfl rfl ?_
        refine V_iload_n C 1 dX12_thingIs_29 rfl rfl ?_
        refine V_iload_n C 2 dX12_thingIs_30 rfl rfl ?_
        obtain ⟨a16, e15, h⟩ := bnd_s h
        refine W_callvi C cf_X12_its (c_X12_its e15) q_ML_X12_51 (ws_X12 sk_172) rfl dX12_thingIs_31 (by decide) rfl rfl (Nat.le_of_ble_eq_true rfl) ?_
        refine V_goto C dX12_thingIs_34 rfl ?_
        exact V_iret C X dX12_thingIs_60 ⟨ri_1 h, ri_2 h⟩
    · replace h := ifp c6 h
      refine V_sub C [0] rfl ?_
      exact v_X12_thingIs_17 C X h
theorem c_X12_thingIs {ε : eT} {N : Nat} {S : St} {v1 : Int32} {v2 : Int32} {res : (Int32 × St)} (h : f_X12_thingIs N S v1 v2 = some res) : CI ε yX12_thingIs cX12_thingIs 3 (some .int) 4 [.ref (eA ε 172), .int v1, .int v2] S (some (.int res.1)) res.2 := CI_of (by decide) (Nat.le_of_ble_eq_true rfl) rfl (fun κ C X => v_X12_thingIs_e C X h)
def f_X12_told (S : St) (v1 : Int32) : Option (Int32 × St) :=
 bnd (f_X12_in S v1 (1 : Int32) (6 : Int32)) (fun a2 =>
 (if a2 = 0 then
 bnd2 (f_X12_error S (1 : Int32)) (fun a5 S6 =>
 some (a5, S6))
 else
 (if inb v1 7 = true then
 some ((S.1 176 v1.toNatClampNeg), S)
 else none)))
set_option maxRecDepth 20000 in
theorem v_X12_told_e {ε : eT} {κ : kT} (C : Act ε κ cX12_told 2 RX12 2) {S : St} {res : (Int32 × St)} (X : RI ε κ (some .int) (some (.int res.1)) res.2) {v1 : Int32} (h : f_X12_told S v1 = some res) : V ε κ 2 0 [(0, .ref (eA ε 172)), (1, .int v1)] [] (wsOf ε S) 0 0 := by
  unfold f_X12_told at h
  refine V_iload_n C 1 dX12_told_0 rfl rfl ?_
  refine V_iconst C dX12_told_1 kc_i_1 ?_
  refine V_bipush C dX12_told_2 kc_b_6 ?_
  obtain ⟨a2, e1, h⟩ := bnd_s h
  refine W_callsi C cf_X12_in (c_X12_in e1) q_ML_X12_47 dX12_told_4 (by decide) rfl rfl (Nat.le_of_ble_eq_true rfl) ?_
  refine V_if_eq C dX12_told_7 rfl (fun c3 => ?_) (fun c3 => ?_)
  · replace h := ifp c3 h
    refine V_aload_n C 0 dX12_told_19 rfl rfl ?_
    refine V_iconst C dX12_told_20 kc_i_1 ?_
    obtain ⟨a5, S6, e4, h⟩ := bnd2_s h
    refine W_callvi C cf_X12_error (c_X12_error e4) q_ML_X12_60 (ws_X12 sk_172) rfl dX12_told_21 (by decide) rfl rfl (Nat.le_of_ble_eq_true rfl) ?_
    exact V_iret C X dX12_told_24 ⟨ri_1 h, ri_2 h⟩
  · replace h := ifn c3 h
    refine V_aload_n C 0 dX12_told_10 rfl rfl ?_
    refine G_X12_errors (q := 172) C sk_172 q_FL_X12_19 dX12_told_11 ?_
    refine V_iload_n C 1 dX12_told_14 rfl rfl ?_
    obtain ⟨g7, h⟩ := gdt h
    refine W_iald (q := 176) C sk_176 g7 dX12_told_15 ?_
    refine V_goto C dX12_told_16 rfl ?_
    exact V_iret C X dX12_told_24 ⟨ri_1 h, ri_2 h⟩
theorem c_X12_told {ε : eT} {S : St} {v1 : Int32} {res : (Int32 × St)} (h : f_X12_told S v1 = some res) : CI ε yX12_told cX12_told 2 (some .int) 2 [.ref (eA ε 172), .int v1] S (some (.int res.1)) res.2 := CI_of (by decide) (Nat.le_of_ble_eq_true rfl) rfl (fun κ C X => v_X12_told_e C X h)
def f_X12_town (N : Nat) (S : St) (v1 : Int32) : Option (Int32 × St) :=
 bnd (f_X12_in S v1 (0 : Int32) (6 : Int32)) (fun a2 =>
 (if a2 = 0 then
 bnd2 (f_X12_error S (1 : Int32)) (fun a5 S6 =>
 some (a5, S6))
 else
 bnd (f_X12_townOf N S v1) (fun a8 =>
 some (a8, S))))
set_option maxRecDepth 20000 in
theorem v_X12_town_e {ε : eT} {κ : kT} {N : Nat} (C : Act ε κ cX12_town 2 RX12 6) {S : St} {res : (Int32 × St)} (X : RI ε κ (some .int) (some (.int res.1)) res.2) {v1 : Int32} (h : f_X12_town N S v1 = some res) : V ε κ 2 0 [(0, .ref (eA ε 172)), (1, .int v1)] [] (wsOf ε S) 0 0 := by
  unfold f_X12_town at h
  refine V_iload_n C 1 dX12_town_0 rfl rfl ?_
  refine V_iconst C dX12_town_1 kc_i_0 ?_
  refine V_bipush C dX12_town_2 kc_b_6 ?_
  obtain ⟨a2, e1, h⟩ := bnd_s h
  refine W_callsi C cf_X12_in (c_X12_in e1) q_ML_X12_47 dX12_town_4 (by decide) rfl rfl (Nat.le_of_ble_eq_true rfl) ?_
  refine V_if_eq C dX12_town_7 rfl (fun c3 => ?_) (fun c3 => ?_)
  · replace h := ifp c3 h
    refine V_aload_n C 0 dX12_town_18 rfl rfl ?_
    refine V_iconst C dX12_town_19 kc_i_1 ?_
    obtain ⟨a5, S6, e4, h⟩ := bnd2_s h
    refine W_callvi C cf_X12_error (c_X12_error e4) q_ML_X12_60 (ws_X12 sk_172) rfl dX12_town_20 (by decide) rfl rfl (Nat.le_of_ble_eq_true rfl) ?_
    exact V_iret C X dX12_town_23 ⟨ri_1 h, ri_2 h⟩
  · replace h := ifn c3 h
    refine V_aload_n C 0 dX12_town_10 rfl rfl ?_
    refine V_iload_n C 1 dX12_town_11 rfl rfl ?_
    obtain ⟨a8, e7, h⟩ := bnd_s h
    refine W_callvi C cf_X12_townOf (c_X12_townOf e7) q_ML_X12_238 (ws_X12 sk_172) rfl dX12_town_12 (by decide) rfl rfl (Nat.le_of_ble_eq_true rfl) ?_
    refine V_goto C dX12_town_15 rfl ?_
    exact V_iret C X dX12_town_23 ⟨ri_1 h, ri_2 h⟩
theorem c_X12_town {ε : eT} {N : Nat} {S : St} {v1 : Int32} {res : (Int32 × St)} (h : f_X12_town N S v1 = some res) : CI ε yX12_town cX12_town 2 (some .int) 6 [.ref (eA ε 172), .int v1] S (some (.int res.1)) res.2 := CI_of (by decide) (Nat.le_of_ble_eq_true rfl) rfl (fun κ C X => v_X12_town_e C X h)
def f_X12_untell_28 (S : St) (v1 : Int32) (s0 : Int32) : Option (Int32 × St) :=
 (if inb ((182 : Int32) + ((125 : Int32) * v1)) 516 = true then
 some (s0, (pt S 173 ((182 : Int32) + ((125 : Int32) * v1)).toNatClampNeg (0 : Int32)))
 else none)
set_option maxRecDepth 20000 in
theorem v_X12_untell_28 {ε : eT} {κ : kT} (C : Act ε κ cX12_untell 3 RX12 2) {S : St} {res : (Int32 × St)} (X : RI ε κ (some .int) (some (.int res.1)) res.2) {v1 : Int32} {s0 : Int32} (h : f_X12_untell_28 S v1 s0 = some res) : V ε κ 3 28 [(0, .ref (eA ε 172)), (1, .int v1)] [.int s0] (wsOf ε S) 0 0 := by
  unfold f_X12_untell_28 at h
  refine V_istore_n (lv' := [(2, .int s0), (0, .ref (eA ε 172)), (1, .int v1)]) C dX12_untell_28 rfl (by decide) rfl ?_
  refine V_aload_n C 1 dX12_untell_29 rfl rfl ?_
  refine G_X12_s (q := 172) C sk_172 q_FL_X12_7 dX12_untell_30 ?_
  refine V_sipush C dX12_untell_33 kc_s_182 ?_
  refine V_bipush C dX12_untell_36 kc_b_125 ?_
  refine V_iload_n C 2 dX12_untell_38 rfl rfl ?_
  refine V_imul C dX12_untell_39 ?_
  refine V_iadd C dX12_untell_40 ?_
  refine V_iconst C dX12_untell_41 kc_i_0 ?_
  obtain ⟨g1, h⟩ := gdt h
  refine W_iast (q := 173) C sk_173 g1 dX12_untell_42 ?_
  refine V_iload_n C 0 dX12_untell_43 rfl rfl ?_
  exact V_iret C X dX12_untell_44 ⟨ri_1 h, ri_2 h⟩
def f_X12_untell (S : St) (v1 : Int32) : Option (Int32 × St) :=
 bnd (f_X12_in S v1 (0 : Int32) (1 : Int32)) (fun a2 =>
 (if a2 = 0 then
 bnd2 (f_X12_error S (1 : Int32)) (fun a8 S9 =>
 some (a8, S9))
 else
 bnd (f_X12_hasText S v1) (fun a5 =>
 (if a5 = 0 then
 f_X12_untell_28 S v1 (0 : Int32)
 else
 f_X12_untell_28 S v1 (1 : Int32)))))
set_option maxRecDepth 20000 in
theorem v_X12_untell_e {ε : eT} {κ : kT} (C : Act ε κ cX12_untell 3 RX12 2) {S : St} {res : (Int32 × St)} (X : RI ε κ (some .int) (some (.int res.1)) res.2) {v1 : Int32} (h : f_X12_untell S v1 = some res) : V ε κ 3 0 [(0, .ref (eA ε 172)), (1, .int v1)] [] (wsOf ε S) 0 0 := by
  unfold f_X12_untell at h
  refine V_iload_n C 1 dX12_untell_0 rfl rfl ?_
  refine V_iconst C dX12_untell_1 kc_i_0 ?_
  refine V_iconst C dX12_untell_2 kc_i_1 ?_
  obtain ⟨a2, e1, h⟩ := bnd_s h
  refine W_callsi C cf_X12_in (c_X12_in e1) q_ML_X12_47 dX12_untell_3 (by decide) rfl rfl (Nat.le_of_ble_eq_true rfl) ?_
  refine V_if_ne C dX12_untell_6 rfl (fun c3 => ?_) (fun c3 => ?_)
  · replace h := ifn c3 h
    refine V_aload_n C 0 dX12_untell_15 rfl rfl ?_
    refine V_iload_n C 1 dX12_untell_16 rfl rfl ?_
    obtain ⟨a5, e4, h⟩ := bnd_s h
    refine W_callvi C cf_X12_hasText (c_X12_hasText e4) q_ML_X12_152 (ws_X12 sk_172) rfl dX12_untell_17 (by decide) rfl rfl (Nat.le_of_ble_eq_true rfl) ?_
    refine V_if_eq C dX12_untell_20 rfl (fun c6 => ?_) (fun c6 => ?_)
    · replace h := ifp c6 h
      refine V_iconst C dX12_untell_27 kc_i_0 ?_
      exact v_X12_untell_28 C X h
    · replace h := ifn c6 h
      refine V_iconst C dX12_untell_23 kc_i_1 ?_
      refine V_goto C dX12_untell_24 rfl ?_
      exact v_X12_untell_28 C X h
  · replace h := ifp c3 h
    refine V_aload_n C 0 dX12_untell_9 rfl rfl ?_
    refine V_iconst C dX12_untell_10 kc_i_1 ?_
    obtain ⟨a8, S9, e7, h⟩ := bnd2_s h
    refine W_callvi C cf_X12_error (c_X12_error e7) q_ML_X12_60 (ws_X12 sk_172) rfl dX12_untell_11 (by decide) rfl rfl (Nat.le_of_ble_eq_true rfl) ?_
    exact V_iret C X dX12_untell_14 ⟨ri_1 h, ri_2 h⟩
theorem c_X12_untell {ε : eT} {S : St} {v1 : Int32} {res : (Int32 × St)} (h : f_X12_untell S v1 = some res) : CI ε yX12_untell cX12_untell 3 (some .int) 2 [.ref (eA ε 172), .int v1] S (some (.int res.1)) res.2 := CI_of (by decide) (Nat.le_of_ble_eq_true rfl) rfl (fun κ C X => v_X12_untell_e C X h)
def f_X12_voice_17 (S : St) : Option (Int32 × St) :=
 bnd2 (f_X12_error S (1 : Int32)) (fun a2 S3 =>
 some (a2, S3))
set_option maxRecDepth 20000 in
theorem v_X12_voice_17 {ε : eT} {κ : kT} (C : Act ε κ cX12_voice 6 RX12 49) {S : St} {res : (Int32 × St)} (X : RI ε κ (some .int) (some (.int res.1)) res.2) (h : f_X12_voice_17 S = some res) : V ε κ 6 17 [(0, .ref (eA ε 172))] [] (wsOf ε S) 0 0 := by
  unfold f_X12_voice_17 at h
  refine V_aload_n C 0 dX12_voice_17 rfl rfl ?_
  refine V_iconst C dX12_voice_18 kc_i_1 ?_
  obtain ⟨a2, S3, e1, h⟩ := bnd2_s h
  refine W_callvi C cf_X12_error (c_X12_error e1) q_ML_X12_60 (ws_X12 sk_172) rfl dX12_voice_19 (by decide) rfl rfl (Nat.le_of_ble_eq_true rfl) ?_
  exact V_iret C X dX12_voice_22 ⟨ri_1 h, ri_2 h⟩
def f_X12_voice_95 (S : St) (s0 : Int32) : Option (Int32 × St) :=
 (if (S.1 172 15) = 0 then
 some (s0, S)
 else
 bnd2 (f_X12_error S (6 : Int32)) (fun a3 S4 =>
 some (a3, S4)))
set_option maxRecDepth 20000 in
theorem v_X12_voice_95 {ε : eT} {κ : kT} (C : Act ε κ cX12_voice 6 RX12 49) {S : St} {res : (Int32 × St)} (X : RI ε κ (some .int) (some (.int res.1)) res.2) {s0 : Int32} (h : f_X12_voice_95 S s0 = some res) : V ε κ 6 95 [(0, .ref (eA ε 172))] [.int s0] (wsOf ε S) 0 0 := by
  unfold f_X12_voice_95 at h
  refine V_istore (lv' := [(5, .int s0), (0, .ref (eA ε 172))]) C dX12_voice_95 (by decide) rfl ?_
  refine V_aload_n C 1 dX12_voice_97 rfl rfl ?_
  refine G_X12_isParted (q := 172) C sk_172 q_FL_X12_272 dX12_voice_98 ?_
  refine V_if_eq C dX12_voice_101 rfl (fun c1 => ?_) (fun c1 => ?_)
  · replace h := ifp c1 h
    refine V_iload C 0 dX12_voice_113 rfl ?_
    exact V_iret C X dX12_voice_115 ⟨ri_1 h, ri_2 h⟩
  · replace h := ifn c1 h
    refine V_aload_n C 1 dX12_voice_104 rfl rfl ?_
    refine V_bipush C dX12_voice_105 kc_b_6 ?_
    obtain ⟨a3, S4, e2, h⟩ := bnd2_s h
    refine W_callvi C cf_X12_error (c_X12_error e2) q_ML_X12_60 (ws_X12 sk_172) rfl dX12_voice_107 (by decide) rfl rfl (Nat.le_of_ble_eq_true rfl) ?_
    refine V_goto C dX12_voice_110 rfl ?_
    exact V_iret C X dX12_voice_115 ⟨ri_1 h, ri_2 h⟩
def f_X12_voice (S : St) (v1 : Int32) (v2 : Int32) (v3 : Int32) : Option (Int32 × St) :=
 bnd (f_X12_isPerson S v1) (fun a2 =>
 (if a2 = 0 then
 f_X12_voice_17 S
 else
 bnd (f_X12_in S v2 (0 : Int32) (3 : Int32)) (fun a5 =>
 (if a5 = 0 then
 f_X12_voice_17 S
 else
 bnd (f_X12_kindNow (pt (pt (pt S 172 13 (0 : Int32)) 172 14 v1) 172 15 (0 : Int32))) (fun a8 =>
 (if v2 = 0 then
 bnd2 (f_X12_calls 8 (pt (pt (pt S 172 13 (0 : Int32)) 172 14 v1) 172 15 (0 : Int32)) a8 v3) (fun a22 S23 =>
 f_X12_voice_95 S23 a22)
 else
 (if v2 = (1 : Int32) then
 bnd2 (f_X12_buys 8 (pt (pt (pt S 172 13 (0 : Int32)) 172 14 v1) 172 15 (0 : Int32)) a8 v3) (fun a19 S20 =>
 f_X12_voice_95 S20 a19)
 else
 (if v2 = (2 : Int32) then
 bnd2 (f_X12_gives 8 (pt (pt (pt S 172 13 (0 : Int32)) 172 14 v1) 172 15 (0 : Int32)) a8 v3) (fun a16 S17 =>
 f_X12_voice_95 S17 a16)
 else
 bnd2 (f_X12_minds 8 (pt (pt (pt S 172 13 (0 : Int32)) 172 14 v1) 172 15 (0 : Int32)) a8 v3) (fun a13 S14 =>
 f_X12_voice_95 S14 a13)))))))))
set_option maxRecDepth 20000 in
theorem v_X12_voice_e {ε : eT} {κ : kT} (C : Act ε κ cX12_voice 6 RX12 49) {S : St} {res : (Int32 × St)} (X : RI ε κ (some .int) (some (.int res.1)) res.2) {v1 : Int32} {v2 : Int32} {v3 : Int32} (h : f_X12_voice S v1 v2 v3 = some res) : V ε κ 6 0 [(0, .ref (eA ε 172)), (1, .int v1), (2, .int v2), (3, .int v3)] [] (wsOf ε S) 0 0 := by
  unfold f_X12_voice at h
  refine V_aload_n C 0 dX12_voice_0 rfl rfl ?_
  refine V_iload_n C 1 dX12_voice_1 rfl rfl ?_
  obtain ⟨a2, e1, h⟩ := bnd_s h
  refine W_callvi C cf_X12_isPerson (c_X12_isPerson e1) q_ML_X12_76 (ws_X12 sk_172) rfl dX12_voice_2 (by decide) rfl rfl (Nat.le_of_ble_eq_true rfl) ?_
  refine V_if_eq C dX12_voice_5 rfl (fun c3 => ?_) (fun c3 => ?_)
  · replace h := ifp c3 h
    refine V_sub C [0] rfl ?_
    exact v_X12_voice_17 C X h
  · replace h := ifn c3 h
    refine V_iload_n C 2 dX12_voice_8 rfl rfl ?_
    refine V_iconst C dX12_voice_9 kc_i_0 ?_
    refine V_iconst C dX12_voice_10 kc_i_3 ?_
    obtain ⟨a5, e4, h⟩ := bnd_s h
    refine W_callsi C cf_X12_in (c_X12_in e4) q_ML_X12_47 dX12_voice_11 (by decide) rfl rfl (Nat.le_of_ble_eq_true rfl) ?_
    refine V_if_ne C dX12_voice_14 rfl (fun c6 => ?_) (fun c6 => ?_)
    · replace h := ifn c6 h
      refine V_aload_n C 0 dX12_voice_23 rfl rfl ?_
      refine V_iconst C dX12_voice_24 kc_i_0 ?_
      refine P_X12_traced (q := 172) C sk_172 q_FL_X12_245 dX12_voice_25 ?_
      refine V_aload_n C 0 dX12_voice_28 rfl rfl ?_
      refine V_iload_n C 1 dX12_voice_29 rfl rfl ?_
      refine P_X12_speaks (q := 172) C sk_172 q_FL_X12_248 dX12_voice_30 ?_
      refine V_aload_n C 0 dX12_voice_33 rfl rfl ?_
      refine V_iconst C dX12_voice_34 kc_i_0 ?_
      refine P_X12_isParted (q := 172) C nb_0 fb_0 sk_172 q_FL_X12_272 dX12_voice_35 ?_
      refine V_aload_n C 0 dX12_voice_38 rfl rfl ?_
      obtain ⟨a8, e7, h⟩ := bnd_s h
      refine W_callvi C cf_X12_kindNow (c_X12_kindNow e7) q_ML_X12_260 (ws_X12 sk_172) rfl dX12_voice_39 (by decide) rfl rfl (Nat.le_of_ble_eq_true rfl) ?_
      refine V_istore (lv' := [(4, .int a8), (0, .ref (eA ε 172)), (1, .int v1), (2, .int v2), (3, .int v3)]) C dX12_voice_42 (by decide) rfl ?_
      refine V_iload_n C 3 dX12_voice_44 rfl rfl ?_
      refine V_if_ne C dX12_voice_45 rfl (fun c9 => ?_) (fun c9 => ?_)
      · replace h := ifn c9 h
        refine V_iload_n C 3 dX12_voice_58 rfl rfl ?_
        refine V_iconst C dX12_voice_59 kc_i_1 ?_
        refine V_icmp_ne C dX12_voice_60 rfl (fun c10 => ?_) (fun c10 => ?_)
        · replace h := ifn c10 h
          refine V_iload_n C 3 dX12_voice_73 rfl rfl ?_
          refine V_iconst C dX12_voice_74 kc_i_2 ?_
          refine V_icmp_ne C dX12_voice_75 rfl (fun c11 => ?_) (fun c11 => ?_)
          · replace h := ifn c11 h
            refine V_aload_n C 1 dX12_voice_88 rfl rfl ?_
            refine V_iload C 0 dX12_voice_89 rfl ?_
            refine V_iload_n C 4 dX12_voice_91 rfl rfl ?_
            obtain ⟨a13, S14, e12, h⟩ := bnd2_s h
            refine W_callvi C cf_X12_minds (c_X12_minds 8 e12) q_ML_X12_276 (ws_X12 sk_172) rfl dX12_voice_92 (by decide) rfl rfl (Nat.le_of_ble_eq_true rfl) ?_
            refine V_sub C [1] rfl ?_
            exact v_X12_voice_95 C X h
          · replace h := ifp c11 h
            refine V_aload_n C 1 dX12_voice_78 rfl rfl ?_
            refine V_iload C 0 dX12_voice_79 rfl ?_
            refine V_iload_n C 4 dX12_voice_81 rfl rfl ?_
            obtain ⟨a16, S17, e15, h⟩ := bnd2_s h
            refine W_callvi C cf_X12_gives (c_X12_gives 8 e15) q_ML_X12_269 (ws_X12 sk_172) rfl dX12_voice_82 (by decide) rfl rfl (Nat.le_of_ble_eq_true rfl) ?_
            refine V_goto C dX12_voice_85 rfl ?_
            refine V_sub C [1] rfl ?_
            exact v_X12_voice_95 C X h
        · replace h := ifp c10 h
          refine V_aload_n C 1 dX12_voice_63 rfl rfl ?_
          refine V_iload C 0 dX12_voice_64 rfl ?_
          refine V_iload_n C 4 dX12_voice_66 rfl rfl ?_
          obtain ⟨a19, S20, e18, h⟩ := bnd2_s h
          refine W_callvi C cf_X12_buys (c_X12_buys 8 e18) q_ML_X12_263 (ws_X12 sk_172) rfl dX12_voice_67 (by decide) rfl rfl (Nat.le_of_ble_eq_true rfl) ?_
          refine V_goto C dX12_voice_70 rfl ?_
          refine V_sub C [1] rfl ?_
          exact v_X12_voice_95 C X h
      · replace h := ifp c9 h
        refine V_aload_n C 1 dX12_voice_48 rfl rfl ?_
        refine V_iload C 0 dX12_voice_49 rfl ?_
        refine V_iload_n C 4 dX12_voice_51 rfl rfl ?_
        obtain ⟨a22, S23, e21, h⟩ := bnd2_s h
        refine W_callvi C cf_X12_calls (c_X12_calls 8 e21) q_ML_X12_257 (ws_X12 sk_172) rfl dX12_voice_52 (by decide) rfl rfl (Nat.le_of_ble_eq_true rfl) ?_
        refine V_goto C dX12_voice_55 rfl ?_
        refine V_sub C [1] rfl ?_
        exact v_X12_voice_95 C X h
    · replace h := ifp c6 h
      refine V_sub C [0] rfl ?_
      exact v_X12_voice_17 C X h
theorem c_X12_voice {ε : eT} {S : St} {v1 : Int32} {v2 : Int32} {v3 : Int32} {res : (Int32 × St)} (h : f_X12_voice S v1 v2 v3 = some res) : CI ε yX12_voice cX12_voice 6 (some .int) 49 [.ref (eA ε 172), .int v1, .int v2, .int v3] S (some (.int res.1)) res.2 := CI_of (by decide) (Nat.le_of_ble_eq_true rfl) rfl (fun κ C X => v_X12_voice_e C X h)
def f_X12_whose_18 (N : Nat) (S : St) : Option (Int32 × St) :=
 bnd2 (f_X12_error S (1 : Int32)) (fun a2 S3 =>
 some (a2, S3))
set_option maxRecDepth 20000 in
theorem v_X12_whose_18 {ε : eT} {κ : kT} {N : Nat} (C : Act ε κ cX12_whose 4 RX12 12) {S : St} {res : (Int32 × St)} (X : RI ε κ (some .int) (some (.int res.1)) res.2) (h : f_X12_whose_18 N S = some res) : V ε κ 4 18 [(0, .ref (eA ε 172))] [] (wsOf ε S) 0 0 := by
  unfold f_X12_whose_18 at h
  refine V_aload_n C 0 dX12_whose_18 rfl rfl ?_
  refine V_iconst C dX12_whose_19 kc_i_1 ?_
  obtain ⟨a2, S3, e1, h⟩ := bnd2_s h
  refine W_callvi C cf_X12_error (c_X12_error e1) q_ML_X12_60 (ws_X12 sk_172) rfl dX12_whose_20 (by decide) rfl rfl (Nat.le_of_ble_eq_true rfl) ?_
  exact V_iret C X dX12_whose_23 ⟨ri_1 h, ri_2 h⟩
def f_X12_whose (N : Nat) (S : St) (v1 : Int32) (v2 : Int32) : Option (Int32 × St) :=
 bnd (f_X12_in S v1 (0 : Int32) (40 : Int32)) (fun a2 =>
 (if a2 = 0 then
 f_X12_whose_18 N S
 else
 bnd (f_X12_isThing S v2) (fun a5 =>
 (if a5 = 0 then
 f_X12_whose_18 N S
 else
 bnd (f_X12_lay N S 173 175) (fun S8 =>
 bnd (f_X12_go N S8 v1) (fun S10 =>
 bnd (f_X12_owner S10 v2) (fun a12 =>
 bnd (f_X12_lay N S10 175 173) (fun S14 =>
 some (a12, S14)))))))))
set_option maxRecDepth 20000 in
theorem v_X12_whose_e {ε : eT} {κ : kT} {N : Nat} (C : Act ε κ cX12_whose 4 RX12 12) {S : St} {res : (Int32 × St)} (X : RI ε κ (some .int) (some (.int res.1)) res.2) {v1 : Int32} {v2 : Int32} (h : f_X12_whose N S v1 v2 = some res) : V ε κ 4 0 [(0, .ref (eA ε 172)), (1, .int v1), (2, .int v2)] [] (wsOf ε S) 0 0 := by
  unfold f_X12_whose at h
  refine V_iload_n C 1 dX12_whose_0 rfl rfl ?_
  refine V_iconst C dX12_whose_1 kc_i_0 ?_
  refine V_bipush C dX12_whose_2 kc_b_40 ?_
  obtain ⟨a2, e1, h⟩ := bnd_s h
  refine W_callsi C cf_X12_in (c_X12_in e1) q_ML_X12_47 dX12_whose_4 (by decide) rfl rfl (Nat.le_of_ble_eq_true rfl) ?_
  refine V_if_eq C dX12_whose_7 rfl (fun c3 => ?_) (fun c3 => ?_)
  · replace h := ifp c3 h
    refine V_sub C [0] rfl ?_
    exact v_X12_whose_18 C X h
  · replace h := ifn c3 h
    refine V_aload_n C 0 dX12_whose_10 rfl rfl ?_
    refine V_iload_n C 2 dX12_whose_11 rfl rfl ?_
    obtain ⟨a5, e4, h⟩ := bnd_s h
    refine W_callvi C cf_X12_isThing (c_X12_isThing e4) q_ML_X12_92 (ws_X12 sk_172) rfl dX12_whose_12 (by decide) rfl rfl (Nat.le_of_ble_eq_true rfl) ?_
    refine V_if_ne C dX12_whose_15 rfl (fun c6 => ?_) (fun c6 => ?_)
    · replace h := ifn c6 h
      refine V_aload_n C 0 dX12_whose_24 rfl rfl ?_
      refine G_X12_s (q := 172) C sk_172 q_FL_X12_7 dX12_whose_25 ?_
      refine V_aload_n C 0 dX12_whose_28 rfl rfl ?_
      refine G_X12_put (q := 172) C sk_172 q_FL_X12_16 dX12_whose_29 ?_
      obtain ⟨S8, e7, h⟩ := bnd_s h
      refine W_callsn C cf_X12_lay (c_X12_lay sk_173 sk_175 e7) q_ML_X12_241 dX12_whose_32 (by decide) rfl rfl (Nat.le_of_ble_eq_true rfl) ?_
      refine V_aload_n C 0 dX12_whose_35 rfl rfl ?_
      refine V_iload_n C 1 dX12_whose_36 rfl rfl ?_
      obtain ⟨S10, e9, h⟩ := bnd_s h
      refine W_callvn C cf_X12_go (c_X12_go e9) q_ML_X12_204 (ws_X12 sk_172) rfl dX12_whose_37 (by decide) rfl rfl (Nat.le_of_ble_eq_true rfl) ?_
      refine V_aload_n C 0 dX12_whose_40 rfl rfl ?_
      refine V_iload_n C 2 dX12_whose_41 rfl rfl ?_
      obtain ⟨a12, e11, h⟩ := bnd_s h
      refine W_callvi C cf_X12_owner (c_X12_owner e11) q_ML_X12_67 (ws_X12 sk_172) rfl dX12_whose_42 (by decide) rfl rfl (Nat.le_of_ble_eq_true rfl) ?_
      refine V_istore_n (lv' := [(3, .int a12), (0, .ref (eA ε 172)), (1, .int v1), (2, .int v2)]) C dX12_whose_45 rfl (by decide) rfl ?_
      refine V_aload_n C 1 dX12_whose_46 rfl rfl ?_
      refine G_X12_put (q := 172) C sk_172 q_FL_X12_16 dX12_whose_47 ?_
      refine V_aload_n C 1 dX12_whose_50 rfl rfl ?_
      refine G_X12_s (q := 172) C sk_172 q_FL_X12_7 dX12_whose_51 ?_
      obtain ⟨S14, e13, h⟩ := bnd_s h
      refine W_callsn C cf_X12_lay (c_X12_lay sk_175 sk_173 e13) q_ML_X12_241 dX12_whose_54 (by decide) rfl rfl (Nat.le_of_ble_eq_true rfl) ?_
      refine V_iload_n C 0 dX12_whose_57 rfl rfl ?_
      exact V_iret C X dX12_whose_58 ⟨ri_1 h, ri_2 h⟩
    · replace h := ifp c6 h
      refine V_sub C [0] rfl ?_
      exact v_X12_whose_18 C X h
theorem c_X12_whose {ε : eT} {N : Nat} {S : St} {v1 : Int32} {v2 : Int32} {res : (Int32 × St)} (h : f_X12_whose N S v1 v2 = some res) : CI ε yX12_whose cX12_whose 4 (some .int) 12 [.ref (eA ε 172), .int v1, .int v2] S (some (.int res.1)) res.2 := CI_of (by decide) (Nat.le_of_ble_eq_true rfl) rfl (fun κ C X => v_X12_whose_e C X h)
