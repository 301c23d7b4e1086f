def f_X12_judge_27 (N : Nat) : Nat → St → Int32 → Int32 → Option (Int32 × St)
  | 0, _, _, _ => none
  | n + 1, S, v1, v2 =>
    bnd (f_X12_isThing S v2) (fun a2 =>
     (if a2 = 0 then
     some (v2, S)
     else
     (if inb v1 4 = true then
     (if (S.1 182 v1.toNatClampNeg) ≤ v2 then
     some (v2, S)
     else
     (if inb (((24 : Int32) * v1) + v2) 96 = true then
     bnd2 (f_X12_names N S v2) (fun a8 S9 =>
     (if (S.1 183 (((24 : Int32) * v1) + v2).toNatClampNeg) = a8 then
     f_X12_judge_27 N n S9 v1 (v2 + 1)
     else
     some (v2, S9)))
     else none))
     else none)))
set_option maxRecDepth 20000 in
theorem v_X12_judge_27 {ε : eT} {κ : kT} {N : Nat} (C : Act ε κ cX12_judge 3 RX12 10) {res : (Int32 × St)} (X : RI ε κ (some .int) (some (.int res.1)) res.2) : ∀ (n : Nat) (S : St) (v1 : Int32) (v2 : Int32) (h : f_X12_judge_27 N n S v1 v2 = some res), V ε κ 3 27 [(0, .ref (eA ε 172)), (1, .int v1), (2, .int v2)] [] (wsOf ε S) 0 0 := by
  intro n
  induction n with
  | zero => intro S v1 v2 h; cases h
  | succ n ih =>
    intro S v1 v2 h
    rw [f_X12_judge_27] at h
    refine V_aload_n C 0 dX12_judge_27 rfl rfl ?_
    refine V_iload_n C 2 dX12_judge_28 rfl rfl ?_
    obtain ⟨a2, e1, h⟩ := bnd_s h
    refine W_callvi C cf_X12_isThing (c_X12_isThing e1) q_ML_X12_92 (ws_X12 sk_172) rfl dX12_judge_29 (by decide) rfl rfl (Nat.le_of_ble_eq_true rfl) ?_
    refine V_if_eq C dX12_judge_32 rfl (fun c3 => ?_) (fun c3 => ?_)
    · replace h := ifp c3 h
      refine V_iload_n C 2 dX12_judge_70 rfl rfl ?_
      exact V_iret C X dX12_judge_71 ⟨ri_1 h, ri_2 h⟩
    · replace h := ifn c3 h
      refine V_iload_n C 2 dX12_judge_35 rfl rfl ?_
      refine V_aload_n C 0 dX12_judge_36 rfl rfl ?_
      refine G_X12_sizes (q := 172) C sk_172 q_FL_X12_37 dX12_judge_37 ?_
      refine V_iload_n C 1 dX12_judge_40 rfl rfl ?_
      obtain ⟨g4, h⟩ := gdt h
      refine W_iald (q := 182) C sk_182 g4 dX12_judge_41 ?_
      refine V_icmp_ge C dX12_judge_42 rfl (fun c5 => ?_) (fun c5 => ?_)
      · replace h := ifp c5 h
        refine V_iload_n C 2 dX12_judge_70 rfl rfl ?_
        exact V_iret C X dX12_judge_71 ⟨ri_1 h, ri_2 h⟩
      · replace h := ifn c5 h
        refine V_aload_n C 0 dX12_judge_45 rfl rfl ?_
        refine G_X12_number (q := 172) C sk_172 q_FL_X12_40 dX12_judge_46 ?_
        refine V_bipush C dX12_judge_49 kc_b_24 ?_
        refine V_iload_n C 1 dX12_judge_51 rfl rfl ?_
        refine V_imul C dX12_judge_52 ?_
        refine V_iload_n C 2 dX12_judge_53 rfl rfl ?_
        refine V_iadd C dX12_judge_54 ?_
        obtain ⟨g6, h⟩ := gdt h
        refine W_iald (q := 183) C sk_183 g6 dX12_judge_55 ?_
        refine V_aload_n C 0 dX12_judge_56 rfl rfl ?_
        refine V_iload_n C 2 dX12_judge_57 rfl rfl ?_
        obtain ⟨a8, S9, e7, h⟩ := bnd2_s h
        refine W_callvi C cf_X12_names (c_X12_names e7) q_ML_X12_174 (ws_X12 sk_172) rfl dX12_judge_58 (by decide) rfl rfl (Nat.le_of_ble_eq_true rfl) ?_
        refine V_icmp_ne C dX12_judge_61 rfl (fun c10 => ?_) (fun c10 => ?_)
        · replace h := ifn c10 h
          refine V_iload_n C 2 dX12_judge_70 rfl rfl ?_
          exact V_iret C X dX12_judge_71 ⟨ri_1 h, ri_2 h⟩
        · replace h := ifp c10 h
          refine V_iinc (v := (v2 + 1)) (lv' := [(2, .int (v2 + 1)), (0, .ref (eA ε 172)), (1, .int v1)]) C 2 dX12_judge_64 rfl (congrArg _ kc_i_1) (by decide) rfl ?_
          refine V_goto C dX12_judge_67 rfl ?_
          refine V_sub C [1, 2, 0] rfl ?_
          exact ih _ _ _ h
def f_X12_judge (N : Nat) (S : St) (v1 : Int32) : Option (Int32 × St) :=
 bnd (f_X12_isSheet S v1) (fun a2 =>
 (if a2 = 0 then
 bnd2 (f_X12_error S (1 : Int32)) (fun a9 S10 =>
 some (a9, S10))
 else
 bnd2 (f_X12_missing S v1) (fun a5 S6 =>
 (if 0 ≤ a5 then
 f_X12_judge_27 N N S6 v1 (0 : Int32)
 else
 some ((-1000000002 : Int32), S6)))))
set_option maxRecDepth 20000 in
theorem v_X12_judge_e {ε : eT} {κ : kT} {N : Nat} (C : Act ε κ cX12_judge 3 RX12 10) {S : St} {res : (Int32 × St)} (X : RI ε κ (some .int) (some (.int res.1)) res.2) {v1 : Int32} (h : f_X12_judge N S v1 = some res) : V ε κ 3 0 [(0, .ref (eA ε 172)), (1, .int v1)] [] (wsOf ε S) 0 0 := by
  unfold f_X12_judge at h
  refine V_iload_n C 1 dX12_judge_0 rfl rfl ?_
  obtain ⟨a2, e1, h⟩ := bnd_s h
  refine W_callsi C cf_X12_isSheet (c_X12_isSheet e1) q_ML_X12_279 dX12_judge_1 (by decide) rfl rfl (Nat.le_of_ble_eq_true rfl) ?_
  refine V_if_ne C dX12_judge_4 rfl (fun c3 => ?_) (fun c3 => ?_)
  · replace h := ifn c3 h
    refine V_aload_n C 0 dX12_judge_13 rfl rfl ?_
    refine V_iload_n C 1 dX12_judge_14 rfl rfl ?_
    obtain ⟨a5, S6, e4, h⟩ := bnd2_s h
    refine W_callvi C cf_X12_missing (c_X12_missing e4) q_ML_X12_282 (ws_X12 sk_172) rfl dX12_judge_15 (by decide) rfl rfl (Nat.le_of_ble_eq_true rfl) ?_
    refine V_if_ge C dX12_judge_18 rfl (fun c7 => ?_) (fun c7 => ?_)
    · replace h := ifp c7 h
      refine V_iconst C dX12_judge_25 kc_i_0 ?_
      refine V_istore_n (lv' := [(2, .int (0 : Int32)), (0, .ref (eA ε 172)), (1, .int v1)]) C dX12_judge_26 rfl (by decide) rfl ?_
      refine V_sub C [1, 2, 0] rfl ?_
      exact v_X12_judge_27 C X N _ _ _ h
    · replace h := ifn c7 h
      refine V_ldcw C q_K_X12_285 dX12_judge_21 ?_
      exact V_iret C X dX12_judge_24 ⟨ri_1 h, ri_2 h⟩
  · replace h := ifp c3 h
    refine V_aload_n C 0 dX12_judge_7 rfl rfl ?_
    refine V_iconst C dX12_judge_8 kc_i_1 ?_
    obtain ⟨a9, S10, e8, h⟩ := bnd2_s h
    refine W_callvi C cf_X12_error (c_X12_error e8) q_ML_X12_60 (ws_X12 sk_172) rfl dX12_judge_9 (by decide) rfl rfl (Nat.le_of_ble_eq_true rfl) ?_
    exact V_iret C X dX12_judge_12 ⟨ri_1 h, ri_2 h⟩
theorem c_X12_judge {ε : eT} {N : Nat} {S : St} {v1 : Int32} {res : (Int32 × St)} (h : f_X12_judge N S v1 = some res) : CI ε yX12_judge cX12_judge 3 (some .int) 10 [.ref (eA ε 172), .int v1] S (some (.int res.1)) res.2 := CI_of (by decide) (Nat.le_of_ble_eq_true rfl) rfl (fun κ C X => v_X12_judge_e C X h)
def f_X12_owns_62 (N : Nat) (S : St) (K5 : Int32 → Int32 → Int32 → Int32 → Option Int32) (v1 : Int32) (v2 : Int32) (v4 : Int32) (s0 : Int32) (s1 : Int32) : Option Int32 :=
 K5 v1 v2 (s1 + s0) (v4 + 1)
set_option maxRecDepth 20000 in
theorem v_X12_owns_62 {ε : eT} {κ : kT} {N : Nat} (C : Act ε κ cX12_owns 5 RX12 3) {S : St} {res : Int32} (X : RI ε κ (some .int) (some (.int res)) S) {K5 : Int32 → Int32 → Int32 → Int32 → Option Int32} (hK5 : ∀ (v1 : Int32) (v2 : Int32) (v3 : Int32) (v4 : Int32), K5 v1 v2 v3 v4 = some res → V ε κ 5 5 [(0, .ref (eA ε 172)), (1, .int v1), (2, .int v2), (3, .int v3), (4, .int v4)] [] (wsOf ε S) 0 0) {v1 : Int32} {v2 : Int32} {v4 : Int32} {s0 : Int32} {s1 : Int32} (h : f_X12_owns_62 N S K5 v1 v2 v4 s0 s1 = some res) : V ε κ 5 62 [(0, .ref (eA ε 172)), (1, .int v1), (2, .int v2), (4, .int v4)] [.int s0, .int s1] (wsOf ε S) 0 0 := by
  unfold f_X12_owns_62 at h
  refine V_iadd C dX12_owns_62 ?_
  refine V_istore_n (lv' := [(3, .int (s1 + s0)), (0, .ref (eA ε 172)), (1, .int v1), (2, .int v2), (4, .int v4)]) C dX12_owns_63 rfl (by decide) rfl ?_
  refine V_iinc (v := (v4 + 1)) (lv' := [(4, .int (v4 + 1)), (3, .int (s1 + s0)), (0, .ref (eA ε 172)), (1, .int v1), (2, .int v2)]) C 4 dX12_owns_64 rfl (congrArg _ kc_i_1) (by decide) rfl ?_
  refine V_goto C dX12_owns_67 rfl ?_
  refine V_sub C [2, 3, 4, 1, 0] rfl ?_
  exact hK5 _ _ _ _ h
def f_X12_owns_5 (N : Nat) (S : St) : Nat → Int32 → Int32 → Int32 → Int32 → Option Int32
  | 0, _, _, _, _ => none
  | n + 1, v1, v2, v3, v4 =>
    (if (S.1 173 1) ≤ v4 then
     some v3
     else
     bnd (f_X12_owner S v4) (fun a3 =>
     (if a3 = v1 then
     (if v2 = (3 : Int32) then
     f_X12_owns_62 N S (f_X12_owns_5 N S n) v1 v2 v4 (1 : Int32) v3
     else
     (if v2 = (4 : Int32) then
     bnd (f_X12_its S v4 (3 : Int32)) (fun a10 =>
     f_X12_owns_62 N S (f_X12_owns_5 N S n) v1 v2 v4 a10 v3)
     else
     bnd (f_X12_valueTo S v1 v4) (fun a8 =>
     f_X12_owns_62 N S (f_X12_owns_5 N S n) v1 v2 v4 a8 v3)))
     else
     f_X12_owns_62 N S (f_X12_owns_5 N S n) v1 v2 v4 (0 : Int32) v3)))
set_option maxRecDepth 20000 in
theorem v_X12_owns_5 {ε : eT} {κ : kT} {N : Nat} (C : Act ε κ cX12_owns 5 RX12 3) {S : St} {res : Int32} (X : RI ε κ (some .int) (some (.int res)) S) : ∀ (n : Nat) (v1 : Int32) (v2 : Int32) (v3 : Int32) (v4 : Int32) (h : f_X12_owns_5 N S n v1 v2 v3 v4 = some res), V ε κ 5 5 [(0, .ref (eA ε 172)), (1, .int v1), (2, .int v2), (3, .int v3), (4, .int v4)] [] (wsOf ε S) 0 0 := by
  intro n
  induction n with
  | zero => intro v1 v2 v3 v4 h; cases h
  | succ n ih =>
    intro v1 v2 v3 v4 h
    rw [f_X12_owns_5] at h
    refine V_iload C 4 dX12_owns_5 rfl ?_
    refine V_aload_n C 0 dX12_owns_7 rfl rfl ?_
    refine G_X12_s (q := 172) C sk_172 q_FL_X12_7 dX12_owns_8 ?_
    refine V_iconst C dX12_owns_11 kc_i_1 ?_
    refine W_ialdc (q := 173) C sk_173 (j := 1) tn_1 (by decide) dX12_owns_12 ?_
    refine V_icmp_ge C dX12_owns_13 rfl (fun c1 => ?_) (fun c1 => ?_)
    · replace h := ifp c1 h
      refine V_iload_n C 3 dX12_owns_70 rfl rfl ?_
      exact V_iret C X dX12_owns_71 ⟨rip_1 h, rfl⟩
    · replace h := ifn c1 h
      refine V_iload_n C 3 dX12_owns_16 rfl rfl ?_
      refine V_aload_n C 0 dX12_owns_17 rfl rfl ?_
      refine V_iload C 4 dX12_owns_18 rfl ?_
      obtain ⟨a3, e2, h⟩ := bnd_s h
      refine W_callvi C cf_X12_owner (c_X12_owner e2) q_ML_X12_67 (ws_X12 sk_172) rfl dX12_owns_20 (by decide) rfl rfl (Nat.le_of_ble_eq_true rfl) ?_
      refine V_iload_n C 1 dX12_owns_23 rfl rfl ?_
      refine V_icmp_eq C dX12_owns_24 rfl (fun c4 => ?_) (fun c4 => ?_)
      · replace h := ifp c4 h
        refine V_iload_n C 2 dX12_owns_31 rfl rfl ?_
        refine V_iconst C dX12_owns_32 kc_i_3 ?_
        refine V_icmp_ne C dX12_owns_33 rfl (fun c5 => ?_) (fun c5 => ?_)
        · replace h := ifn c5 h
          refine V_iload_n C 2 dX12_owns_40 rfl rfl ?_
          refine V_iconst C dX12_owns_41 kc_i_4 ?_
          refine V_icmp_ne C dX12_owns_42 rfl (fun c6 => ?_) (fun c6 => ?_)
          · replace h := ifn c6 h
            refine V_aload_n C 0 dX12_owns_55 rfl rfl ?_
            refine V_iload_n C 1 dX12_owns_56 rfl rfl ?_
            refine V_iload C 4 dX12_owns_57 rfl ?_
            obtain ⟨a8, e7, h⟩ := bnd_s h
            refine W_callvi C cf_X12_valueTo (c_X12_valueTo e7) q_ML_X12_73 (ws_X12 sk_172) rfl dX12_owns_59 (by decide) rfl rfl (Nat.le_of_ble_eq_true rfl) ?_
            refine V_sub C [0, 1, 2, 4] rfl ?_
            exact v_X12_owns_62 C X ih h
          · replace h := ifp c6 h
            refine V_aload_n C 0 dX12_owns_45 rfl rfl ?_
            refine V_iload C 4 dX12_owns_46 rfl ?_
            refine V_iconst C dX12_owns_48 kc_i_3 ?_
            obtain ⟨a10, e9, h⟩ := bnd_s h
            refine W_callvi C cf_X12_its (c_X12_its e9) q_ML_X12_51 (ws_X12 sk_172) rfl dX12_owns_49 (by decide) rfl rfl (Nat.le_of_ble_eq_true rfl) ?_
            refine V_goto C dX12_owns_52 rfl ?_
            refine V_sub C [0, 1, 2, 4] rfl ?_
            exact v_X12_owns_62 C X ih h
        · replace h := ifp c5 h
          refine V_iconst C dX12_owns_36 kc_i_1 ?_
          refine V_goto C dX12_owns_37 rfl ?_
          refine V_sub C [0, 1, 2, 4] rfl ?_
          exact v_X12_owns_62 C X ih h
      · replace h := ifn c4 h
        refine V_iconst C dX12_owns_27 kc_i_0 ?_
        refine V_goto C dX12_owns_28 rfl ?_
        refine V_sub C [0, 1, 2, 4] rfl ?_
        exact v_X12_owns_62 C X ih h
def f_X12_owns (N : Nat) (S : St) (v1 : Int32) (v2 : Int32) : Option Int32 :=
 f_X12_owns_5 N S N v1 v2 (0 : Int32) (0 : Int32)
set_option maxRecDepth 20000 in
theorem v_X12_owns_e {ε : eT} {κ : kT} {N : Nat} (C : Act ε κ cX12_owns 5 RX12 3) {S : St} {res : Int32} (X : RI ε κ (some .int) (some (.int res)) S) {v1 : Int32} {v2 : Int32} (h : f_X12_owns N S v1 v2 = some res) : V ε κ 5 0 [(0, .ref (eA ε 172)), (1, .int v1), (2, .int v2)] [] (wsOf ε S) 0 0 := by
  unfold f_X12_owns at h
  refine V_iconst C dX12_owns_0 kc_i_0 ?_
  refine V_istore_n (lv' := [(3, .int (0 : Int32)), (0, .ref (eA ε 172)), (1, .int v1), (2, .int v2)]) C dX12_owns_1 rfl (by decide) rfl ?_
  refine V_iconst C dX12_owns_2 kc_i_0 ?_
  refine V_istore (lv' := [(4, .int (0 : Int32)), (3, .int (0 : Int32)), (0, .ref (eA ε 172)), (1, .int v1), (2, .int v2)]) C dX12_owns_3 (by decide) rfl ?_
  refine V_sub C [2, 3, 4, 1, 0] rfl ?_
  exact v_X12_owns_5 C X N _ _ _ _ h
theorem c_X12_owns {ε : eT} {N : Nat} {S : St} {v1 : Int32} {v2 : Int32} {res : Int32} (h : f_X12_owns N S v1 v2 = some res) : CI ε yX12_owns cX12_owns 5 (some .int) 3 [.ref (eA ε 172), .int v1, .int v2] S (some (.int res)) S := CI_of (by decide) (Nat.le_of_ble_eq_true rfl) rfl (fun κ C X => v_X12_owns_e C X h)
def f_X12_keep_17 (N : Nat) (S : St) : Option (Int32 × St) :=
 bnd2 (f_X12_error S (1 : Int32)) (fun a2 S3 =>
 some (a2, S3))
set_option maxRecDepth 20000 in
theorem v_X12_keep_17 {ε : eT} {κ : kT} {N : Nat} (C : Act ε κ cX12_keep 4 RX12 4) {S : St} {res : (Int32 × St)} (X : RI ε κ (some .int) (some (.int res.1)) res.2) (h : f_X12_keep_17 N S = some res) : V ε κ 4 17 [(0, .ref (eA ε 172))] [] (wsOf ε S) 0 0 := by
  unfold f_X12_keep_17 at h
  refine V_aload_n C 0 dX12_keep_17 rfl rfl ?_
  refine V_iconst C dX12_keep_18 kc_i_1 ?_
  obtain ⟨a2, S3, e1, h⟩ := bnd2_s h
  refine W_callvi C cf_X12_error (c_X12_error e1) q_ML_X12_60 (ws_X12 sk_172) rfl dX12_keep_19 (by decide) rfl rfl (Nat.le_of_ble_eq_true rfl) ?_
  exact V_iret C X dX12_keep_22 ⟨ri_1 h, ri_2 h⟩
def f_X12_keep_65 (N : Nat) (S : St) (v1 : Int32) (v2 : Int32) (v3 : Int32) : Option (Int32 × St) :=
 (if inb (((44 : Int32) + ((4 : Int32) * v1)) + (3 : Int32)) 516 = true then
 some (v3, (pt S 173 (((44 : Int32) + ((4 : Int32) * v1)) + (3 : Int32)).toNatClampNeg v2))
 else none)
set_option maxRecDepth 20000 in
theorem v_X12_keep_65 {ε : eT} {κ : kT} {N : Nat} (C : Act ε κ cX12_keep 4 RX12 4) {S : St} {res : (Int32 × St)} (X : RI ε κ (some .int) (some (.int res.1)) res.2) {v1 : Int32} {v2 : Int32} {v3 : Int32} (h : f_X12_keep_65 N S v1 v2 v3 = some res) : V ε κ 4 65 [(0, .ref (eA ε 172)), (1, .int v1), (2, .int v2), (3, .int v3)] [] (wsOf ε S) 0 0 := by
  unfold f_X12_keep_65 at h
  refine V_aload_n C 0 dX12_keep_65 rfl rfl ?_
  refine G_X12_s (q := 172) C sk_172 q_FL_X12_7 dX12_keep_66 ?_
  refine V_bipush C dX12_keep_69 kc_b_44 ?_
  refine V_iconst C dX12_keep_71 kc_i_4 ?_
  refine V_iload_n C 1 dX12_keep_72 rfl rfl ?_
  refine V_imul C dX12_keep_73 ?_
  refine V_iadd C dX12_keep_74 ?_
  refine V_iconst C dX12_keep_75 kc_i_3 ?_
  refine V_iadd C dX12_keep_76 ?_
  refine V_iload_n C 2 dX12_keep_77 rfl rfl ?_
  obtain ⟨g1, h⟩ := gdt h
  refine W_iast (q := 173) C sk_173 g1 dX12_keep_78 ?_
  refine V_iload_n C 3 dX12_keep_79 rfl rfl ?_
  exact V_iret C X dX12_keep_80 ⟨ri_1 h, ri_2 h⟩
def f_X12_keep (N : Nat) (S : St) (v1 : Int32) (v2 : Int32) : Option (Int32 × St) :=
 bnd (f_X12_isThing S v1) (fun a2 =>
 (if a2 = 0 then
 f_X12_keep_17 N S
 else
 bnd (f_X12_in S v2 (0 : Int32) (1 : Int32)) (fun a5 =>
 (if a5 = 0 then
 f_X12_keep_17 N S
 else
 bnd (f_X12_its S v1 (3 : Int32)) (fun a8 =>
 (if v2 = (1 : Int32) then
 (if a8 = 0 then
 bnd (f_X12_owner S v1) (fun a12 =>
 bnd (f_X12_owns N S a12 (4 : Int32)) (fun a14 =>
 (if a14 < (S.1 173 13) then
 f_X12_keep_65 N S v1 v2 a8
 else
 bnd2 (f_X12_error S (3 : Int32)) (fun a17 S18 =>
 some (a17, S18)))))
 else
 f_X12_keep_65 N S v1 v2 a8)
 else
 f_X12_keep_65 N S v1 v2 a8))))))
set_option maxRecDepth 20000 in
theorem v_X12_keep_e {ε : eT} {κ : kT} {N : Nat} (C : Act ε κ cX12_keep 4 RX12 4) {S : St} {res : (Int32 × St)} (X : RI ε κ (some .int) (some (.int res.1)) res.2) {v1 : Int32} {v2 : Int32} (h : f_X12_keep N S v1 v2 = some res) : V ε κ 4 0 [(0, .ref (eA ε 172)), (1, .int v1), (2, .int v2)] [] (wsOf ε S) 0 0 := by
  unfold f_X12_keep at h
  refine V_aload_n C 0 dX12_keep_0 rfl rfl ?_
  refine V_iload_n C 1 dX12_keep_1 rfl rfl ?_
  obtain ⟨a2, e1, h⟩ := bnd_s h
  refine W_callvi C cf_X12_isThing (c_X12_isThing e1) q_ML_X12_92 (ws_X12 sk_172) rfl dX12_keep_2 (by decide) rfl rfl (Nat.le_of_ble_eq_true rfl) ?_
  refine V_if_eq C dX12_keep_5 rfl (fun c3 => ?_) (fun c3 => ?_)
  · replace h := ifp c3 h
    refine V_sub C [0] rfl ?_
    exact v_X12_keep_17 C X h
  · replace h := ifn c3 h
    refine V_iload_n C 2 dX12_keep_8 rfl rfl ?_
    refine V_iconst C dX12_keep_9 kc_i_0 ?_
    refine V_iconst C dX12_keep_10 kc_i_1 ?_
    obtain ⟨a5, e4, h⟩ := bnd_s h
    refine W_callsi C cf_X12_in (c_X12_in e4) q_ML_X12_47 dX12_keep_11 (by decide) rfl rfl (Nat.le_of_ble_eq_true rfl) ?_
    refine V_if_ne C dX12_keep_14 rfl (fun c6 => ?_) (fun c6 => ?_)
    · replace h := ifn c6 h
      refine V_aload_n C 0 dX12_keep_23 rfl rfl ?_
      refine V_iload_n C 1 dX12_keep_24 rfl rfl ?_
      refine V_iconst C dX12_keep_25 kc_i_3 ?_
      obtain ⟨a8, e7, h⟩ := bnd_s h
      refine W_callvi C cf_X12_its (c_X12_its e7) q_ML_X12_51 (ws_X12 sk_172) rfl dX12_keep_26 (by decide) rfl rfl (Nat.le_of_ble_eq_true rfl) ?_
      refine V_istore_n (lv' := [(3, .int a8), (0, .ref (eA ε 172)), (1, .int v1), (2, .int v2)]) C dX12_keep_29 rfl (by decide) rfl ?_
      refine V_iload_n C 3 dX12_keep_30 rfl rfl ?_
      refine V_iconst C dX12_keep_31 kc_i_1 ?_
      refine V_icmp_ne C dX12_keep_32 rfl (fun c9 => ?_) (fun c9 => ?_)
      · replace h := ifn c9 h
        refine V_sub C [1, 2, 3, 0] rfl ?_
        exact v_X12_keep_65 C X h
      · replace h := ifp c9 h
        refine V_iload_n C 0 dX12_keep_35 rfl rfl ?_
        refine V_if_ne C dX12_keep_36 rfl (fun c10 => ?_) (fun c10 => ?_)
        · replace h := ifn c10 h
          refine V_sub C [1, 2, 3, 0] rfl ?_
          exact v_X12_keep_65 C X h
        · replace h := ifp c10 h
          refine V_aload_n C 1 dX12_keep_39 rfl rfl ?_
          refine V_aload_n C 1 dX12_keep_40 rfl rfl ?_
          refine V_iload_n C 2 dX12_keep_41 rfl rfl ?_
          obtain ⟨a12, e11, h⟩ := bnd_s h
          refine W_callvi C cf_X12_owner (c_X12_owner e11) q_ML_X12_67 (ws_X12 sk_172) rfl dX12_keep_42 (by decide) rfl rfl (Nat.le_of_ble_eq_true rfl) ?_
          refine V_iconst C dX12_keep_45 kc_i_4 ?_
          obtain ⟨a14, e13, h⟩ := bnd_s h
          refine W_callvi C cf_X12_owns (c_X12_owns e13) q_ML_X12_85 (ws_X12 sk_172) rfl dX12_keep_46 (by decide) rfl rfl (Nat.le_of_ble_eq_true rfl) ?_
          refine V_aload_n C 1 dX12_keep_49 rfl rfl ?_
          refine G_X12_s (q := 172) C sk_172 q_FL_X12_7 dX12_keep_50 ?_
          refine V_bipush C dX12_keep_53 kc_b_13 ?_
          refine W_ialdc (q := 173) C sk_173 (j := 13) tn_13 (by decide) dX12_keep_55 ?_
          refine V_icmp_lt C dX12_keep_56 rfl (fun c15 => ?_) (fun c15 => ?_)
          · replace h := ifp c15 h
            refine V_sub C [1, 2, 3, 0] rfl ?_
            exact v_X12_keep_65 C X h
          · replace h := ifn c15 h
            refine V_aload_n C 1 dX12_keep_59 rfl rfl ?_
            refine V_iconst C dX12_keep_60 kc_i_3 ?_
            obtain ⟨a17, S18, e16, h⟩ := bnd2_s h
            refine W_callvi C cf_X12_error (c_X12_error e16) q_ML_X12_60 (ws_X12 sk_172) rfl dX12_keep_61 (by decide) rfl rfl (Nat.le_of_ble_eq_true rfl) ?_
            exact V_iret C X dX12_keep_64 ⟨ri_1 h, ri_2 h⟩
    · replace h := ifp c6 h
      refine V_sub C [0] rfl ?_
      exact v_X12_keep_17 C X h
theorem c_X12_keep {ε : eT} {N : Nat} {S : St} {v1 : Int32} {v2 : Int32} {res : (Int32 × St)} (h : f_X12_keep N S v1 v2 = some res) : CI ε yX12_keep cX12_keep 4 (some .int) 4 [.ref (eA ε 172), .int v1, .int v2] S (some (.int res.1)) res.2 := CI_of (by decide) (Nat.le_of_ble_eq_true rfl) rfl (fun κ C X => v_X12_keep_e C X h)
def f_X12_lacks_39 (N : Nat) (S : St) (K4 : Int32 → Int32 → Int32 → Option Int32) (v1 : Int32) (v3 : Int32) (s0 : Int32) (s1 : Int32) : Option Int32 :=
 K4 v1 (s1 ||| s0) (v3 + 1)
set_option maxRecDepth 20000 in
theorem v_X12_lacks_39 {ε : eT} {κ : kT} {N : Nat} (C : Act ε κ cX12_lacks 4 RX12 4) {S : St} {res : Int32} (X : RI ε κ (some .int) (some (.int res)) S) {K4 : Int32 → Int32 → Int32 → Option Int32} (hK4 : ∀ (v1 : Int32) (v2 : Int32) (v3 : Int32), K4 v1 v2 v3 = some res → V ε κ 4 4 [(0, .ref (eA ε 172)), (1, .int v1), (2, .int v2), (3, .int v3)] [] (wsOf ε S) 0 0) {v1 : Int32} {v3 : Int32} {s0 : Int32} {s1 : Int32} (h : f_X12_lacks_39 N S K4 v1 v3 s0 s1 = some res) : V ε κ 4 39 [(0, .ref (eA ε 172)), (1, .int v1), (3, .int v3)] [.int s0, .int s1] (wsOf ε S) 0 0 := by
  unfold f_X12_lacks_39 at h
  refine V_ior C dX12_lacks_39 ?_
  refine V_istore_n (lv' := [(2, .int (s1 ||| s0)), (0, .ref (eA ε 172)), (1, .int v1), (3, .int v3)]) C dX12_lacks_40 rfl (by decide) rfl ?_
  refine V_iinc (v := (v3 + 1)) (lv' := [(3, .int (v3 + 1)), (2, .int (s1 ||| s0)), (0, .ref (eA ε 172)), (1, .int v1)]) C 3 dX12_lacks_41 rfl (congrArg _ kc_i_1) (by decide) rfl ?_
  refine V_goto C dX12_lacks_44 rfl ?_
  refine V_sub C [2, 3, 1, 0] rfl ?_
  exact hK4 _ _ _ h
def f_X12_lacks_4 (N : Nat) (S : St) : Nat → Int32 → Int32 → Int32 → Option Int32
  | 0, _, _, _ => none
  | n + 1, v1, v2, v3 =>
    (if (S.1 173 2) ≤ v3 then
     some v2
     else
     bnd (f_X12_hasOne S v1 v3 (0 : Int32)) (fun a3 =>
     bnd (f_X12_hasOne S v1 v3 (1 : Int32)) (fun a5 =>
     (if a3 = a5 then
     f_X12_lacks_39 N S (f_X12_lacks_4 N S n) v1 v3 (0 : Int32) v2
     else
     f_X12_lacks_39 N S (f_X12_lacks_4 N S n) v1 v3 ((1 : Int32) <<< (v3 &&& 31)) v2))))
set_option maxRecDepth 20000 in
theorem v_X12_lacks_4 {ε : eT} {κ : kT} {N : Nat} (C : Act ε κ cX12_lacks 4 RX12 4) {S : St} {res : Int32} (X : RI ε κ (some .int) (some (.int res)) S) : ∀ (n : Nat) (v1 : Int32) (v2 : Int32) (v3 : Int32) (h : f_X12_lacks_4 N S n v1 v2 v3 = some res), V ε κ 4 4 [(0, .ref (eA ε 172)), (1, .int v1), (2, .int v2), (3, .int v3)] [] (wsOf ε S) 0 0 := by
  intro n
  induction n with
  | zero => intro v1 v2 v3 h; cases h
  | succ n ih =>
    intro v1 v2 v3 h
    rw [f_X12_lacks_4] at h
    refine V_iload_n C 3 dX12_lacks_4 rfl rfl ?_
    refine V_aload_n C 0 dX12_lacks_5 rfl rfl ?_
    refine G_X12_s (q := 172) C sk_172 q_FL_X12_7 dX12_lacks_6 ?_
    refine V_iconst C dX12_lacks_9 kc_i_2 ?_
    refine W_ialdc (q := 173) C sk_173 (j := 2) tn_2 (by decide) dX12_lacks_10 ?_
    refine V_icmp_ge C dX12_lacks_11 rfl (fun c1 => ?_) (fun c1 => ?_)
    · replace h := ifp c1 h
      refine V_iload_n C 2 dX12_lacks_47 rfl rfl ?_
      exact V_iret C X dX12_lacks_48 ⟨rip_1 h, rfl⟩
    · replace h := ifn c1 h
      refine V_iload_n C 2 dX12_lacks_14 rfl rfl ?_
      refine V_aload_n C 0 dX12_lacks_15 rfl rfl ?_
      refine V_iload_n C 1 dX12_lacks_16 rfl rfl ?_
      refine V_iload_n C 3 dX12_lacks_17 rfl rfl ?_
      refine V_iconst C dX12_lacks_18 kc_i_0 ?_
      obtain ⟨a3, e2, h⟩ := bnd_s h
      refine W_callvi C cf_X12_hasOne (c_X12_hasOne e2) q_ML_X12_70 (ws_X12 sk_172) rfl dX12_lacks_19 (by decide) rfl rfl (Nat.le_of_ble_eq_true rfl) ?_
      refine V_aload_n C 0 dX12_lacks_22 rfl rfl ?_
      refine V_iload_n C 1 dX12_lacks_23 rfl rfl ?_
      refine V_iload_n C 3 dX12_lacks_24 rfl rfl ?_
      refine V_iconst C dX12_lacks_25 kc_i_1 ?_
      obtain ⟨a5, e4, h⟩ := bnd_s h
      refine W_callvi C cf_X12_hasOne (c_X12_hasOne e4) q_ML_X12_70 (ws_X12 sk_172) rfl dX12_lacks_26 (by decide) rfl rfl (Nat.le_of_ble_eq_true rfl) ?_
      refine V_icmp_eq C dX12_lacks_29 rfl (fun c6 => ?_) (fun c6 => ?_)
      · replace h := ifp c6 h
        refine V_iconst C dX12_lacks_38 kc_i_0 ?_
        refine V_sub C [0, 1, 3] rfl ?_
        exact v_X12_lacks_39 C X ih h
      · replace h := ifn c6 h
        refine V_iconst C dX12_lacks_32 kc_i_1 ?_
        refine V_iload_n C 3 dX12_lacks_33 rfl rfl ?_
        refine V_ishl C dX12_lacks_34 ?_
        refine V_goto C dX12_lacks_35 rfl ?_
        refine V_sub C [0, 1, 3] rfl ?_
        exact v_X12_lacks_39 C X ih h
def f_X12_lacks (N : Nat) (S : St) (v1 : Int32) : Option Int32 :=
 f_X12_lacks_4 N S N v1 (0 : Int32) (0 : Int32)
set_option maxRecDepth 20000 in
theorem v_X12_lacks_e {ε : eT} {κ : kT} {N : Nat} (C : Act ε κ cX12_lacks 4 RX12 4) {S : St} {res : Int32} (X : RI ε κ (some .int) (some (.int res)) S) {v1 : Int32} (h : f_X12_lacks N S v1 = some res) : V ε κ 4 0 [(0, .ref (eA ε 172)), (1, .int v1)] [] (wsOf ε S) 0 0 := by
  unfold f_X12_lacks at h
  refine V_iconst C dX12_lacks_0 kc_i_0 ?_
  refine V_istore_n (lv' := [(2, .int (0 : Int32)), (0, .ref (eA ε 172)), (1, .int v1)]) C dX12_lacks_1 rfl (by decide) rfl ?_
  refine V_iconst C dX12_lacks_2 kc_i_0 ?_
  refine V_istore_n (lv' := [(3, .int (0 : Int32)), (2, .int (0 : Int32)), (0, .ref (eA ε 172)), (1, .int v1)]) C dX12_lacks_3 rfl (by decide) rfl ?_
  refine V_sub C [2, 3, 1, 0] rfl ?_
  exact v_X12_lacks_4 C X N _ _ _ h
theorem c_X12_lacks {ε : eT} {N : Nat} {S : St} {v1 : Int32} {res : Int32} (h : f_X12_lacks N S v1 = some res) : CI ε yX12_lacks cX12_lacks 4 (some .int) 4 [.ref (eA ε 172), .int v1] S (some (.int res)) S := CI_of (by decide) (Nat.le_of_ble_eq_true rfl) rfl (fun κ C X => v_X12_lacks_e C X h)
def f_X12_mended (N : Nat) (S : St) (v1 : Int32) : Option (Int32 × St) :=
 bnd (f_X12_isThing S v1) (fun a2 =>
 (if a2 = 0 then
 bnd2 (f_X12_error S (1 : Int32)) (fun a9 S10 =>
 some (a9, S10))
 else
 bnd2 (f_X12_isMended N S v1) (fun a5 S6 =>
 (if a5 = 0 then
 some ((0 : Int32), S6)
 else
 some ((1 : Int32), S6)))))
set_option maxRecDepth 20000 in
theorem v_X12_mended_e {ε : eT} {κ : kT} {N : Nat} (C : Act ε κ cX12_mended 2 RX12 4) {S : St} {res : (Int32 × St)} (X : RI ε κ (some .int) (some (.int res.1)) res.2) {v1 : Int32} (h : f_X12_mended N S v1 = some res) : V ε κ 2 0 [(0, .ref (eA ε 172)), (1, .int v1)] [] (wsOf ε S) 0 0 := by
  unfold f_X12_mended at h
  refine V_aload_n C 0 dX12_mended_0 rfl rfl ?_
  refine V_iload_n C 1 dX12_mended_1 rfl rfl ?_
  obtain ⟨a2, e1, h⟩ := bnd_s h
  refine W_callvi C cf_X12_isThing (c_X12_isThing e1) q_ML_X12_92 (ws_X12 sk_172) rfl dX12_mended_2 (by decide) rfl rfl (Nat.le_of_ble_eq_true rfl) ?_
  refine V_if_ne C dX12_mended_5 rfl (fun c3 => ?_) (fun c3 => ?_)
  · replace h := ifn c3 h
    refine V_aload_n C 0 dX12_mended_16 rfl rfl ?_
    refine V_iload_n C 1 dX12_mended_17 rfl rfl ?_
    obtain ⟨a5, S6, e4, h⟩ := bnd2_s h
    refine W_callvi C cf_X12_isMended (c_X12_isMended e4) q_ML_X12_177 (ws_X12 sk_172) rfl dX12_mended_18 (by decide) rfl rfl (Nat.le_of_ble_eq_true rfl) ?_
    refine V_if_eq C dX12_mended_21 rfl (fun c7 => ?_) (fun c7 => ?_)
    · replace h := ifp c7 h
      refine V_iconst C dX12_mended_28 kc_i_0 ?_
      exact V_iret C X dX12_mended_29 ⟨ri_1 h, ri_2 h⟩
    · replace h := ifn c7 h
      refine V_iconst C dX12_mended_24 kc_i_1 ?_
      refine V_goto C dX12_mended_25 rfl ?_
      exact V_iret C X dX12_mended_29 ⟨ri_1 h, ri_2 h⟩
  · replace h := ifp c3 h
    refine V_aload_n C 0 dX12_mended_8 rfl rfl ?_
    refine V_iconst C dX12_mended_9 kc_i_1 ?_
    obtain ⟨a9, S10, e8, h⟩ := bnd2_s h
    refine W_callvi C cf_X12_error (c_X12_error e8) q_ML_X12_60 (ws_X12 sk_172) rfl dX12_mended_10 (by decide) rfl rfl (Nat.le_of_ble_eq_true rfl) ?_
    refine V_goto C dX12_mended_13 rfl ?_
    exact V_iret C X dX12_mended_29 ⟨ri_1 h, ri_2 h⟩
theorem c_X12_mended {ε : eT} {N : Nat} {S : St} {v1 : Int32} {res : (Int32 × St)} (h : f_X12_mended N S v1 = some res) : CI ε yX12_mended cX12_mended 2 (some .int) 4 [.ref (eA ε 172), .int v1] S (some (.int res.1)) res.2 := CI_of (by decide) (Nat.le_of_ble_eq_true rfl) rfl (fun κ C X => v_X12_mended_e C X h)
def f_X12_minds_64 (rc : St → Int32 → Int32 → Option (Int32 × St)) (S : St) (v2 : Int32) (v4 : Int32) (s0 : Int32) : Option (Int32 × St) :=
 (if bo s0 = true then
 (if v4 = 0 then
 some ((0 : Int32), (pt S 172 15 s0))
 else
 (if v4 = (-1 : Int32) then
 some ((-v2), (pt S 172 15 s0))
 else
 (if v4 = 0 then none else
 some ((v2 / v4), (pt S 172 15 s0)))))
 else none)
set_option maxRecDepth 20000 in
theorem v_X12_minds_64 {ε : eT} {κ : kT} {rc : St → Int32 → Int32 → Option (Int32 × St)} {e : Nat} (C : Act ε κ cX12_minds 5 RX12 (e + 1)) {S : St} {res : (Int32 × St)} (X : RI ε κ (some .int) (some (.int res.1)) res.2) (hrc : ∀ (S : St) (v1 : Int32) (v2 : Int32) (res : (Int32 × St)), rc S v1 v2 = some res → CI ε yX12_minds cX12_minds 5 (some .int) e [.ref (eA ε 172), .int v1, .int v2] S (some (.int res.1)) res.2) (he : 40 ≤ e) {v2 : Int32} {v4 : Int32} {s0 : Int32} (h : f_X12_minds_64 rc S v2 v4 s0 = some res) : V ε κ 5 64 [(2, .int v2), (4, .int v4)] [.int s0, .ref (eA ε 172)] (wsOf ε S) 0 0 := by
  unfold f_X12_minds_64 at h
  obtain ⟨g1, h⟩ := gdt h
  refine P_X12_isParted (q := 172) C (nb_v g1) (fb_v g1) sk_172 q_FL_X12_272 dX12_minds_64 ?_
  refine V_iload C 1 dX12_minds_67 rfl ?_
  refine V_if_ne C dX12_minds_69 rfl (fun c2 => ?_) (fun c2 => ?_)
  · replace h := ifn c2 h
    refine V_iload C 1 dX12_minds_76 rfl ?_
    refine V_iconst C dX12_minds_78 kc_i_m1 ?_
    refine V_icmp_ne C dX12_minds_79 rfl (fun c3 => ?_) (fun c3 => ?_)
    · replace h := ifn c3 h
      refine V_iload_n C 0 dX12_minds_87 rfl rfl ?_
      refine V_iload C 1 dX12_minds_88 rfl ?_
      obtain ⟨g4, h⟩ := gdf h
      refine V_idiv C dX12_minds_90 g4 ?_
      exact V_iret C X dX12_minds_91 ⟨ri_1 h, ri_2 h⟩
    · replace h := ifp c3 h
      refine V_iload_n C 0 dX12_minds_82 rfl rfl ?_
      refine V_ineg C dX12_minds_83 ?_
      refine V_goto C dX12_minds_84 rfl ?_
      exact V_iret C X dX12_minds_91 ⟨ri_1 h, ri_2 h⟩
  · replace h := ifp c2 h
    refine V_iconst C dX12_minds_72 kc_i_0 ?_
    refine V_goto C dX12_minds_73 rfl ?_
    exact V_iret C X dX12_minds_91 ⟨ri_1 h, ri_2 h⟩
def f_X12_minds : Nat → St → Int32 → Int32 → Option (Int32 × St)
  | 0, _, _, _ => none
  | d + 1, S, v1, v2 =>
    (if v1 = 0 then
     bnd (f_X12_begins S (13 : Int32)) (fun S5 =>
     bnd (f_X12_partNow S5) (fun a7 =>
     (if (a7 - (S5.1 172 14)) = 0 then
     f_X12_minds_64 (f_X12_minds d) S5 v2 (a7 - (S5.1 172 14)) (1 : Int32)
     else
     f_X12_minds_64 (f_X12_minds d) S5 v2 (a7 - (S5.1 172 14)) (0 : Int32))))
     else
     (if v1 = 1 then
     bnd (f_X12_begins S (21 : Int32)) (fun S10 =>
     bnd (f_X12_above S10 (1 : Int32)) (fun a12 =>
     bnd2 ((f_X12_minds d) S10 a12 v2) (fun a14 S15 =>
     (if (S15.1 172 15) = 0 then
     bnd (f_X12_kindNow S15) (fun a18 =>
     bnd2 (f_X12_buys 8 S15 a18 (1 : Int32)) (fun a20 S21 =>
     some ((a14 + a20), S21)))
     else
     some ((0 : Int32), S15)))))
     else
     (if v1 = 6 then
     bnd (f_X12_begins S (61 : Int32)) (fun S23 =>
     bnd (f_X12_above S23 (6 : Int32)) (fun a25 =>
     bnd2 ((f_X12_minds d) S23 a25 v2) (fun a27 S28 =>
     (if (S28.1 172 15) = 0 then
     bnd (f_X12_kindNow S28) (fun a31 =>
     bnd2 (f_X12_gives 8 S28 a31 (0 : Int32)) (fun a33 S34 =>
     some ((a27 - a33), S34)))
     else
     some ((0 : Int32), S28)))))
     else
     bnd (f_X12_above S v1) (fun a36 =>
     bnd2 ((f_X12_minds d) S a36 v2) (fun a38 S39 =>
     some (a38, S39))))))
def g_X12_minds (rc : St → Int32 → Int32 → Option (Int32 × St)) (S : St) (v1 : Int32) (v2 : Int32) : Option (Int32 × St) :=
 (if v1 = 0 then
     bnd (f_X12_begins S (13 : Int32)) (fun S5 =>
     bnd (f_X12_partNow S5) (fun a7 =>
     (if (a7 - (S5.1 172 14)) = 0 then
     f_X12_minds_64 rc S5 v2 (a7 - (S5.1 172 14)) (1 : Int32)
     else
     f_X12_minds_64 rc S5 v2 (a7 - (S5.1 172 14)) (0 : Int32))))
     else
     (if v1 = 1 then
     bnd (f_X12_begins S (21 : Int32)) (fun S10 =>
     bnd (f_X12_above S10 (1 : Int32)) (fun a12 =>
     bnd2 (rc S10 a12 v2) (fun a14 S15 =>
     (if (S15.1 172 15) = 0 then
     bnd (f_X12_kindNow S15) (fun a18 =>
     bnd2 (f_X12_buys 8 S15 a18 (1 : Int32)) (fun a20 S21 =>
     some ((a14 + a20), S21)))
     else
     some ((0 : Int32), S15)))))
     else
     (if v1 = 6 then
     bnd (f_X12_begins S (61 : Int32)) (fun S23 =>
     bnd (f_X12_above S23 (6 : Int32)) (fun a25 =>
     bnd2 (rc S23 a25 v2) (fun a27 S28 =>
     (if (S28.1 172 15) = 0 then
     bnd (f_X12_kindNow S28) (fun a31 =>
     bnd2 (f_X12_gives 8 S28 a31 (0 : Int32)) (fun a33 S34 =>
     some ((a27 - a33), S34)))
     else
     some ((0 : Int32), S28)))))
     else
     bnd (f_X12_above S v1) (fun a36 =>
     bnd2 (rc S a36 v2) (fun a38 S39 =>
     some (a38, S39))))))
set_option maxRecDepth 20000 in
theorem v_X12_minds_e {ε : eT} {κ : kT} {rc : St → Int32 → Int32 → Option (Int32 × St)} {e : Nat} (C : Act ε κ cX12_minds 5 RX12 (e + 1)) {S : St} {res : (Int32 × St)} (X : RI ε κ (some .int) (some (.int res.1)) res.2) (hrc : ∀ (S : St) (v1 : Int32) (v2 : Int32) (res : (Int32 × St)), rc S v1 v2 = some res → CI ε yX12_minds cX12_minds 5 (some .int) e [.ref (eA ε 172), .int v1, .int v2] S (some (.int res.1)) res.2) (he : 40 ≤ e) {v1 : Int32} {v2 : Int32} (h : g_X12_minds rc S v1 v2 = some res) : V ε κ 5 0 [(0, .ref (eA ε 172)), (1, .int v1), (2, .int v2)] [] (wsOf ε S) 0 0 := by
  unfold g_X12_minds at h
  refine V_iconst C dX12_minds_0 kc_i_0 ?_
  refine V_istore_n (lv' := [(3, .int (0 : Int32)), (0, .ref (eA ε 172)), (1, .int v1), (2, .int v2)]) C dX12_minds_1 rfl (by decide) rfl ?_
  refine V_iload_n C 2 dX12_minds_2 rfl rfl ?_
  by_cases c1 : v1 = 0
  · replace h := ifp c1 h
    refine V_lookup C dX12_minds_3 (by decide +kernel) (off := 33) (by rw [c1]; decide +kernel) (tgt := 36) rfl ?_
    refine V_aload_n C 1 dX12_minds_36 rfl rfl ?_
    refine V_bipush C dX12_minds_37 kc_b_13 ?_
    obtain ⟨S5, e4, h⟩ := bnd_s h
    refine W_callvn C cf_X12_begins (c_X12_begins e4) q_ML_X12_251 (ws_X12 sk_172) rfl dX12_minds_39 (by omega) rfl rfl (Nat.le_of_ble_eq_true rfl) ?_
    refine V_aload_n C 1 dX12_minds_42 rfl rfl ?_
    obtain ⟨a7, e6, h⟩ := bnd_s h
    refine W_callvi C cf_X12_partNow (c_X12_partNow e6) q_ML_X12_266 (ws_X12 sk_172) rfl dX12_minds_43 (by omega) rfl rfl (Nat.le_of_ble_eq_true rfl) ?_
    refine V_aload_n C 1 dX12_minds_46 rfl rfl ?_
    refine G_X12_speaks (q := 172) C sk_172 q_FL_X12_248 dX12_minds_47 ?_
    refine V_isub C dX12_minds_50 ?_
    refine V_istore (lv' := [(4, .int (a7 - (S5.1 172 14))), (3, .int (0 : Int32)), (0, .ref (eA ε 172)), (1, .int v1), (2, .int v2)]) C dX12_minds_51 (by decide) rfl ?_
    refine V_aload_n C 2 dX12_minds_53 rfl rfl ?_
    refine V_iload C 0 dX12_minds_54 rfl ?_
    refine V_if_ne C dX12_minds_56 rfl (fun c8 => ?_) (fun c8 => ?_)
    · replace h := ifn c8 h
      refine V_iconst C dX12_minds_63 kc_i_0 ?_
      refine V_sub C [4, 0] rfl ?_
      exact v_X12_minds_64 C X hrc he h
    · replace h := ifp c8 h
      refine V_iconst C dX12_minds_59 kc_i_1 ?_
      refine V_goto C dX12_minds_60 rfl ?_
      refine V_sub C [4, 0] rfl ?_
      exact v_X12_minds_64 C X hrc he h
  · replace h := ifn c1 h
    by_cases c2 : v1 = 1
    · replace h := ifp c2 h
      refine V_lookup C dX12_minds_3 (by decide +kernel) (off := 89) (by rw [c2]; decide +kernel) (tgt := 92) rfl ?_
      refine V_aload_n C 1 dX12_minds_92 rfl rfl ?_
      refine V_bipush C dX12_minds_93 kc_b_21 ?_
      obtain ⟨S10, e9, h⟩ := bnd_s h
      refine W_callvn C cf_X12_begins (c_X12_begins e9) q_ML_X12_251 (ws_X12 sk_172) rfl dX12_minds_95 (by omega) rfl rfl (Nat.le_of_ble_eq_true rfl) ?_
      refine V_aload_n C 1 dX12_minds_98 rfl rfl ?_
      refine V_iconst C dX12_minds_99 kc_i_1 ?_
      obtain ⟨a12, e11, h⟩ := bnd_s h
      refine W_callsi C cf_X12_above (c_X12_above e11) q_ML_X12_254 dX12_minds_100 (by omega) rfl rfl (Nat.le_of_ble_eq_true rfl) ?_
      refine V_iload_n C 3 dX12_minds_103 rfl rfl ?_
      obtain ⟨a14, S15, e13, h⟩ := bnd2_s h
      refine W_callvi C cf_X12_minds (hrc _ _ _ _ e13) q_ML_X12_276 (ws_X12 sk_172) rfl dX12_minds_104 (by omega) rfl rfl (Nat.le_of_ble_eq_true rfl) ?_
      refine V_istore_n (lv' := [(3, .int a14), (0, .ref (eA ε 172)), (1, .int v1), (2, .int v2)]) C dX12_minds_107 rfl (by decide) rfl ?_
      refine V_aload_n C 1 dX12_minds_108 rfl rfl ?_
      refine G_X12_isParted (q := 172) C sk_172 q_FL_X12_272 dX12_minds_109 ?_
      refine V_if_eq C dX12_minds_112 rfl (fun c16 => ?_) (fun c16 => ?_)
      · replace h := ifp c16 h
        refine V_iload_n C 0 dX12_minds_119 rfl rfl ?_
        refine V_aload_n C 1 dX12_minds_120 rfl rfl ?_
        refine V_aload_n C 1 dX12_minds_121 rfl rfl ?_
        obtain ⟨a18, e17, h⟩ := bnd_s h
        refine W_callvi C cf_X12_kindNow (c_X12_kindNow e17) q_ML_X12_260 (ws_X12 sk_172) rfl dX12_minds_122 (by omega) rfl rfl (Nat.le_of_ble_eq_true rfl) ?_
        refine V_iconst C dX12_minds_125 kc_i_1 ?_
        obtain ⟨a20, S21, e19, h⟩ := bnd2_s h
        refine W_callvi C cf_X12_buys (c_X12_buys 8 e19) q_ML_X12_263 (ws_X12 sk_172) rfl dX12_minds_126 (by omega) rfl rfl (Nat.le_of_ble_eq_true rfl) ?_
        refine V_iadd C dX12_minds_129 ?_
        exact V_iret C X dX12_minds_130 ⟨ri_1 h, ri_2 h⟩
      · replace h := ifn c16 h
        refine V_iconst C dX12_minds_115 kc_i_0 ?_
        refine V_goto C dX12_minds_116 rfl ?_
        exact V_iret C X dX12_minds_130 ⟨ri_1 h, ri_2 h⟩
    · replace h := ifn c2 h
      by_cases c3 : v1 = 6
      · replace h := ifp c3 h
        refine V_lookup C dX12_minds_3 (by decide +kernel) (off := 128) (by rw [c3]; decide +kernel) (tgt := 131) rfl ?_
        refine V_aload_n C 1 dX12_minds_131 rfl rfl ?_
        refine V_bipush C dX12_minds_132 kc_b_61 ?_
        obtain ⟨S23, e22, h⟩ := bnd_s h
        refine W_callvn C cf_X12_begins (c_X12_begins e22) q_ML_X12_251 (ws_X12 sk_172) rfl dX12_minds_134 (by omega) rfl rfl (Nat.le_of_ble_eq_true rfl) ?_
        refine V_aload_n C 1 dX12_minds_137 rfl rfl ?_
        refine V_bipush C dX12_minds_138 kc_b_6 ?_
        obtain ⟨a25, e24, h⟩ := bnd_s h
        refine W_callsi C cf_X12_above (c_X12_above e24) q_ML_X12_254 dX12_minds_140 (by omega) rfl rfl (Nat.le_of_ble_eq_true rfl) ?_
        refine V_iload_n C 3 dX12_minds_143 rfl rfl ?_
        obtain ⟨a27, S28, e26, h⟩ := bnd2_s h
        refine W_callvi C cf_X12_minds (hrc _ _ _ _ e26) q_ML_X12_276 (ws_X12 sk_172) rfl dX12_minds_144 (by omega) rfl rfl (Nat.le_of_ble_eq_true rfl) ?_
        refine V_istore_n (lv' := [(3, .int a27), (0, .ref (eA ε 172)), (1, .int v1), (2, .int v2)]) C dX12_minds_147 rfl (by decide) rfl ?_
        refine V_aload_n C 1 dX12_minds_148 rfl rfl ?_
        refine G_X12_isParted (q := 172) C sk_172 q_FL_X12_272 dX12_minds_149 ?_
        refine V_if_eq C dX12_minds_152 rfl (fun c29 => ?_) (fun c29 => ?_)
        · replace h := ifp c29 h
          refine V_iload_n C 0 dX12_minds_159 rfl rfl ?_
          refine V_aload_n C 1 dX12_minds_160 rfl rfl ?_
          refine V_aload_n C 1 dX12_minds_161 rfl rfl ?_
          obtain ⟨a31, e30, h⟩ := bnd_s h
          refine W_callvi C cf_X12_kindNow (c_X12_kindNow e30) q_ML_X12_260 (ws_X12 sk_172) rfl dX12_minds_162 (by omega) rfl rfl (Nat.le_of_ble_eq_true rfl) ?_
          refine V_iconst C dX12_minds_165 kc_i_0 ?_
          obtain ⟨a33, S34, e32, h⟩ := bnd2_s h
          refine W_callvi C cf_X12_gives (c_X12_gives 8 e32) q_ML_X12_269 (ws_X12 sk_172) rfl dX12_minds_166 (by omega) rfl rfl (Nat.le_of_ble_eq_true rfl) ?_
          refine V_isub C dX12_minds_169 ?_
          exact V_iret C X dX12_minds_170 ⟨ri_1 h, ri_2 h⟩
        · replace h := ifn c29 h
          refine V_iconst C dX12_minds_155 kc_i_0 ?_
          refine V_goto C dX12_minds_156 rfl ?_
          exact V_iret C X dX12_minds_170 ⟨ri_1 h, ri_2 h⟩
      · replace h := ifn c3 h
        refine V_lookup C dX12_minds_3 (by decide +kernel) (lks_d [(0 : Int32), (1 : Int32), (6 : Int32)] (List.forall_mem_cons.mpr ⟨c1, (List.forall_mem_cons.mpr ⟨c2, (List.forall_mem_cons.mpr ⟨c3, (fun _ h => absurd h List.not_mem_nil)⟩)⟩)⟩) (by decide +kernel)) (tgt := 171) rfl ?_
        refine V_aload_n C 1 dX12_minds_171 rfl rfl ?_
        refine V_iload_n C 2 dX12_minds_172 rfl rfl ?_
        obtain ⟨a36, e35, h⟩ := bnd_s h
        refine W_callsi C cf_X12_above (c_X12_above e35) q_ML_X12_254 dX12_minds_173 (by omega) rfl rfl (Nat.le_of_ble_eq_true rfl) ?_
        refine V_iload_n C 3 dX12_minds_176 rfl rfl ?_
        obtain ⟨a38, S39, e37, h⟩ := bnd2_s h
        refine W_callvi C cf_X12_minds (hrc _ _ _ _ e37) q_ML_X12_276 (ws_X12 sk_172) rfl dX12_minds_177 (by omega) rfl rfl (Nat.le_of_ble_eq_true rfl) ?_
        exact V_iret C X dX12_minds_180 ⟨ri_1 h, ri_2 h⟩
theorem c_X12_minds {ε : eT} : ∀ (d : Nat) {S : St} {v1 : Int32} {v2 : Int32} {res : (Int32 × St)}, f_X12_minds d S v1 v2 = some res → CI ε yX12_minds cX12_minds 5 (some .int) (40 + 1 * d) [.ref (eA ε 172), .int v1, .int v2] S (some (.int res.1)) res.2 := by
  intro d
  induction d with
  | zero => intro S v1 v2 res  h; cases h
  | succ d ih =>
    intro S v1 v2 res  h
    rw [show 40 + 1 * (d + 1) = (40 + 1 * d) + 1 from by omega]
    exact CI_of (by decide) (Nat.le_of_ble_eq_true rfl) rfl (fun κ C X => v_X12_minds_e C X (rc := f_X12_minds d) (fun S v1 v2 res h => ih h) (by omega) h)
def f_X12_mostOf (S : St) (v0 : Int32) : Option Int32 :=
 (if v0 = (2 : Int32) then
 some (2 : Int32)
 else
 (if v0 = (3 : Int32) then
 some (9 : Int32)
 else
 (if v0 = (4 : Int32) then
 some (999 : Int32)
 else
 some (99 : Int32))))
set_option maxRecDepth 20000 in
theorem v_X12_mostOf_e {ε : eT} {κ : kT} (C : Act ε κ cX12_mostOf 1 RX12 1) {S : St} {res : Int32} (X : RI ε κ (some .int) (some (.int res)) S) {v0 : Int32} (h : f_X12_mostOf S v0 = some res) : V ε κ 1 0 [(0, .int v0)] [] (wsOf ε S) 0 0 := by
  unfold f_X12_mostOf at h
  refine V_iload_n C 0 dX12_mostOf_0 rfl rfl ?_
  refine V_iconst C dX12_mostOf_1 kc_i_2 ?_
  refine V_icmp_ne C dX12_mostOf_2 rfl (fun c1 => ?_) (fun c1 => ?_)
  · replace h := ifn c1 h
    refine V_iload_n C 0 dX12_mostOf_9 rfl rfl ?_
    refine V_iconst C dX12_mostOf_10 kc_i_3 ?_
    refine V_icmp_ne C dX12_mostOf_11 rfl (fun c2 => ?_) (fun c2 => ?_)
    · replace h := ifn c2 h
      refine V_iload_n C 0 dX12_mostOf_19 rfl rfl ?_
      refine V_iconst C dX12_mostOf_20 kc_i_4 ?_
      refine V_icmp_ne C dX12_mostOf_21 rfl (fun c3 => ?_) (fun c3 => ?_)
      · replace h := ifn c3 h
        refine V_bipush C dX12_mostOf_30 kc_b_99 ?_
        exact V_iret C X dX12_mostOf_32 ⟨rip_1 h, rfl⟩
      · replace h := ifp c3 h
        refine V_sipush C dX12_mostOf_24 kc_s_999 ?_
        refine V_goto C dX12_mostOf_27 rfl ?_
        exact V_iret C X dX12_mostOf_32 ⟨rip_1 h, rfl⟩
    · replace h := ifp c2 h
      refine V_bipush C dX12_mostOf_14 kc_b_9 ?_
      refine V_goto C dX12_mostOf_16 rfl ?_
      exact V_iret C X dX12_mostOf_32 ⟨rip_1 h, rfl⟩
  · replace h := ifp c1 h
    refine V_iconst C dX12_mostOf_5 kc_i_2 ?_
    refine V_goto C dX12_mostOf_6 rfl ?_
    exact V_iret C X dX12_mostOf_32 ⟨rip_1 h, rfl⟩
theorem c_X12_mostOf {ε : eT} {S : St} {v0 : Int32} {res : Int32} (h : f_X12_mostOf S v0 = some res) : CI ε yX12_mostOf cX12_mostOf 1 (some .int) 1 [.int v0] S (some (.int res)) S := CI_of (by decide) (Nat.le_of_ble_eq_true rfl) rfl (fun κ C X => v_X12_mostOf_e C X h)
def f_X12_move_14 (N : Nat) (S : St) : Option (Int32 × St) :=
 bnd2 (f_X12_error S (1 : Int32)) (fun a2 S3 =>
 some (a2, S3))
set_option maxRecDepth 20000 in
theorem v_X12_move_14 {ε : eT} {κ : kT} {N : Nat} (C : Act ε κ cX12_move 7 RX12 3) {S : St} {res : (Int32 × St)} (X : RI ε κ (some .int) (some (.int res.1)) res.2) (h : f_X12_move_14 N S = some res) : V ε κ 7 14 [(0, .ref (eA ε 172))] [] (wsOf ε S) 0 0 := by
  unfold f_X12_move_14 at h
  refine V_aload_n C 0 dX12_move_14 rfl rfl ?_
  refine V_iconst C dX12_move_15 kc_i_1 ?_
  obtain ⟨a2, S3, e1, h⟩ := bnd2_s h
  refine W_callvi C cf_X12_error (c_X12_error e1) q_ML_X12_60 (ws_X12 sk_172) rfl dX12_move_16 (by decide) rfl rfl (Nat.le_of_ble_eq_true rfl) ?_
  exact V_iret C X dX12_move_19 ⟨ri_1 h, ri_2 h⟩
def f_X12_move_38 (N : Nat) (S : St) : Option (Int32 × St) :=
 bnd2 (f_X12_error S (2 : Int32)) (fun a2 S3 =>
 some (a2, S3))
set_option maxRecDepth 20000 in
theorem v_X12_move_38 {ε : eT} {κ : kT} {N : Nat} (C : Act ε κ cX12_move 7 RX12 3) {S : St} {res : (Int32 × St)} (X : RI ε κ (some .int) (some (.int res.1)) res.2) (h : f_X12_move_38 N S = some res) : V ε κ 7 38 [(0, .ref (eA ε 172))] [] (wsOf ε S) 0 0 := by
  unfold f_X12_move_38 at h
  refine V_aload_n C 0 dX12_move_38 rfl rfl ?_
  refine V_iconst C dX12_move_39 kc_i_2 ?_
  obtain ⟨a2, S3, e1, h⟩ := bnd2_s h
  refine W_callvi C cf_X12_error (c_X12_error e1) q_ML_X12_60 (ws_X12 sk_172) rfl dX12_move_40 (by decide) rfl rfl (Nat.le_of_ble_eq_true rfl) ?_
  exact V_iret C X dX12_move_43 ⟨ri_1 h, ri_2 h⟩
def f_X12_move_106 (N : Nat) (S : St) : Option (Int32 × St) :=
 bnd2 (f_X12_error S (1 : Int32)) (fun a2 S3 =>
 some (a2, S3))
set_option maxRecDepth 20000 in
theorem v_X12_move_106 {ε : eT} {κ : kT} {N : Nat} (C : Act ε κ cX12_move 7 RX12 3) {S : St} {res : (Int32 × St)} (X : RI ε κ (some .int) (some (.int res.1)) res.2) (h : f_X12_move_106 N S = some res) : V ε κ 7 106 [(0, .ref (eA ε 172))] [] (wsOf ε S) 0 0 := by
  unfold f_X12_move_106 at h
  refine V_aload_n C 0 dX12_move_106 rfl rfl ?_
  refine V_iconst C dX12_move_107 kc_i_1 ?_
  obtain ⟨a2, S3, e1, h⟩ := bnd2_s h
  refine W_callvi C cf_X12_error (c_X12_error e1) q_ML_X12_60 (ws_X12 sk_172) rfl dX12_move_108 (by decide) rfl rfl (Nat.le_of_ble_eq_true rfl) ?_
  exact V_iret C X dX12_move_111 ⟨ri_1 h, ri_2 h⟩
def f_X12_move_152 (N : Nat) : Nat → St → Int32 → Int32 → Int32 → Int32 → Option (Int32 × St)
  | 0, _, _, _, _, _ => none
  | n + 1, S, v3, v4, v5, v6 =>
    (if v5 ≤ v6 then
     some (v5, S)
     else
     (if inb v6 24 = true then
     (if inb ((((24 : Int32) * v3) + v4) + v6) 96 = true then
     f_X12_move_152 N n (pt S 183 ((((24 : Int32) * v3) + v4) + v6).toNatClampNeg (S.1 184 v6.toNatClampNeg)) v3 v4 v5 (v6 + 1)
     else none)
     else none))
set_option maxRecDepth 20000 in
theorem v_X12_move_152 {ε : eT} {κ : kT} {N : Nat} (C : Act ε κ cX12_move 7 RX12 3) {res : (Int32 × St)} (X : RI ε κ (some .int) (some (.int res.1)) res.2) : ∀ (n : Nat) (S : St) (v3 : Int32) (v4 : Int32) (v5 : Int32) (v6 : Int32) (h : f_X12_move_152 N n S v3 v4 v5 v6 = some res), V ε κ 7 152 [(0, .ref (eA ε 172)), (3, .int v3), (4, .int v4), (5, .int v5), (6, .int v6)] [] (wsOf ε S) 0 0 := by
  intro n
  induction n with
  | zero => intro S v3 v4 v5 v6 h; cases h
  | succ n ih =>
    intro S v3 v4 v5 v6 h
    rw [f_X12_move_152] at h
    refine V_iload C 4 dX12_move_152 rfl ?_
    refine V_iload C 3 dX12_move_154 rfl ?_
    refine V_icmp_ge C dX12_move_156 rfl (fun c1 => ?_) (fun c1 => ?_)
    · replace h := ifp c1 h
      refine V_iload C 3 dX12_move_187 rfl ?_
      exact V_iret C X dX12_move_189 ⟨ri_1 h, ri_2 h⟩
    · replace h := ifn c1 h
      refine V_aload_n C 0 dX12_move_159 rfl rfl ?_
      refine G_X12_number (q := 172) C sk_172 q_FL_X12_40 dX12_move_160 ?_
      refine V_bipush C dX12_move_163 kc_b_24 ?_
      refine V_iload_n C 1 dX12_move_165 rfl rfl ?_
      refine V_imul C dX12_move_166 ?_
      refine V_iload C 2 dX12_move_167 rfl ?_
      refine V_iadd C dX12_move_169 ?_
      refine V_iload C 4 dX12_move_170 rfl ?_
      refine V_iadd C dX12_move_172 ?_
      refine V_aload_n C 0 dX12_move_173 rfl rfl ?_
      refine G_X12_aside (q := 172) C sk_172 q_FL_X12_43 dX12_move_174 ?_
      refine V_iload C 4 dX12_move_177 rfl ?_
      obtain ⟨g2, h⟩ := gdt h
      refine W_iald (q := 184) C sk_184 g2 dX12_move_179 ?_
      obtain ⟨g3, h⟩ := gdt h
      refine W_iast (q := 183) C sk_183 g3 dX12_move_180 ?_
      refine V_iinc (v := (v6 + 1)) (lv' := [(6, .int (v6 + 1)), (0, .ref (eA ε 172)), (3, .int v3), (4, .int v4), (5, .int v5)]) C 4 dX12_move_181 rfl (congrArg _ kc_i_1) (by decide) rfl ?_
      refine V_goto C dX12_move_184 rfl ?_
      refine V_sub C [1, 2, 3, 4, 0] rfl ?_
      exact ih _ _ _ _ _ h
def f_X12_move_115 (N : Nat) : Nat → St → Int32 → Int32 → Int32 → Int32 → Int32 → Int32 → Option (Int32 × St)
  | 0, _, _, _, _, _, _, _ => none
  | n + 1, S, v1, v2, v3, v4, v5, v6 =>
    (if v5 ≤ v6 then
     f_X12_move_152 N N S v3 v4 v5 (0 : Int32)
     else
     (if inb ((((24 : Int32) * v1) + v2) + v6) 96 = true then
     (if inb v6 24 = true then
     f_X12_move_115 N n (pt S 184 v6.toNatClampNeg (S.1 183 ((((24 : Int32) * v1) + v2) + v6).toNatClampNeg)) v1 v2 v3 v4 v5 (v6 + 1)
     else none)
     else none))
set_option maxRecDepth 20000 in
theorem v_X12_move_115 {ε : eT} {κ : kT} {N : Nat} (C : Act ε κ cX12_move 7 RX12 3) {res : (Int32 × St)} (X : RI ε κ (some .int) (some (.int res.1)) res.2) : ∀ (n : Nat) (S : St) (v1 : Int32) (v2 : Int32) (v3 : Int32) (v4 : Int32) (v5 : Int32) (v6 : Int32) (h : f_X12_move_115 N n S v1 v2 v3 v4 v5 v6 = some res), V ε κ 7 115 [(0, .ref (eA ε 172)), (1, .int v1), (2, .int v2), (3, .int v3), (4, .int v4), (5, .int v5), (6, .int v6)] [] (wsOf ε S) 0 0 := by
  intro n
  induction n with
  | zero => intro S v1 v2 v3 v4 v5 v6 h; cases h
  | succ n ih =>
    intro S v1 v2 v3 v4 v5 v6 h
    rw [f_X12_move_115] at h
    refine V_iload C 6 dX12_move_115 rfl ?_
    refine V_iload C 5 dX12_move_117 rfl ?_
    refine V_icmp_ge C dX12_move_119 rfl (fun c1 => ?_) (fun c1 => ?_)
    · replace h := ifp c1 h
      refine V_iconst C dX12_move_149 kc_i_0 ?_
      refine V_istore (lv' := [(6, .int (0 : Int32)), (0, .ref (eA ε 172)), (1, .int v1), (2, .int v2), (3, .int v3), (4, .int v4), (5, .int v5)]) C dX12_move_150 (by decide) rfl ?_
      refine V_sub C [1, 4, 5, 6, 0] rfl ?_
      exact v_X12_move_152 C X N _ _ _ _ _ h
    · replace h := ifn c1 h
      refine V_aload_n C 0 dX12_move_122 rfl rfl ?_
      refine G_X12_aside (q := 172) C sk_172 q_FL_X12_43 dX12_move_123 ?_
      refine V_iload C 6 dX12_move_126 rfl ?_
      refine V_aload_n C 0 dX12_move_128 rfl rfl ?_
      refine G_X12_number (q := 172) C sk_172 q_FL_X12_40 dX12_move_129 ?_
      refine V_bipush C dX12_move_132 kc_b_24 ?_
      refine V_iload_n C 1 dX12_move_134 rfl rfl ?_
      refine V_imul C dX12_move_135 ?_
      refine V_iload_n C 2 dX12_move_136 rfl rfl ?_
      refine V_iadd C dX12_move_137 ?_
      refine V_iload C 6 dX12_move_138 rfl ?_
      refine V_iadd C dX12_move_140 ?_
      obtain ⟨g2, h⟩ := gdt h
      refine W_iald (q := 183) C sk_183 g2 dX12_move_141 ?_
      obtain ⟨g3, h⟩ := gdt h
      refine W_iast (q := 184) C sk_184 g3 dX12_move_142 ?_
      refine V_iinc (v := (v6 + 1)) (lv' := [(6, .int (v6 + 1)), (0, .ref (eA ε 172)), (1, .int v1), (2, .int v2), (3, .int v3), (4, .int v4), (5, .int v5)]) C 6 dX12_move_143 rfl (congrArg _ kc_i_1) (by decide) rfl ?_
      refine V_goto C dX12_move_146 rfl ?_
      refine V_sub C [1, 2, 3, 4, 5, 6, 0] rfl ?_
      exact ih _ _ _ _ _ _ _ h
def f_X12_move (N : Nat) (S : St) (v1 : Int32) (v2 : Int32) (v3 : Int32) (v4 : Int32) (v5 : Int32) : Option (Int32 × St) :=
 bnd (f_X12_isSheet S v1) (fun a2 =>
 (if a2 = 0 then
 f_X12_move_14 N S
 else
 bnd (f_X12_isSheet S v3) (fun a5 =>
 (if a5 = 0 then
 f_X12_move_14 N S
 else
 (if inb v1 4 = true then
 (if (S.1 181 v1.toNatClampNeg) = 0 then
 f_X12_move_38 N S
 else
 (if inb v3 4 = true then
 (if (S.1 181 v3.toNatClampNeg) = 0 then
 f_X12_move_38 N S
 else
 (if inb v1 4 = true then
 (if inb v3 4 = true then
 (if (S.1 181 v1.toNatClampNeg) = (S.1 181 v3.toNatClampNeg) then
 (if v5 < 0 then
 f_X12_move_106 N S
 else
 (if v2 < 0 then
 f_X12_move_106 N S
 else
 (if v4 < 0 then
 f_X12_move_106 N S
 else
 (if inb v1 4 = true then
 (if ((S.1 182 v1.toNatClampNeg) - v5) < v2 then
 f_X12_move_106 N S
 else
 (if inb v3 4 = true then
 (if v4 ≤ ((S.1 182 v3.toNatClampNeg) - v5) then
 f_X12_move_115 N N S v1 v2 v3 v4 v5 (0 : Int32)
 else
 f_X12_move_106 N S)
 else none))
 else none))))
 else
 bnd2 (f_X12_error S (5 : Int32)) (fun a22 S23 =>
 some (a22, S23)))
 else none)
 else none))
 else none))
 else none)))))
set_option maxRecDepth 20000 in
theorem v_X12_move_e {ε : eT} {κ : kT} {N : Nat} (C : Act ε κ cX12_move 7 RX12 3) {S : St} {res : (Int32 × St)} (X : RI ε κ (some .int) (some (.int res.1)) res.2) {v1 : Int32} {v2 : Int32} {v3 : Int32} {v4 : Int32} {v5 : Int32} (h : f_X12_move N S v1 v2 v3 v4 v5 = some res) : V ε κ 7 0 [(0, .ref (eA ε 172)), (1, .int v1), (2, .int v2), (3, .int v3), (4, .int v4), (5, .int v5)] [] (wsOf ε S) 0 0 := by
  unfold f_X12_move at h
  refine V_iload_n C 1 dX12_move_0 rfl rfl ?_
  obtain ⟨a2, e1, h⟩ := bnd_s h
  refine W_callsi C cf_X12_isSheet (c_X12_isSheet e1) q_ML_X12_279 dX12_move_1 (by decide) rfl rfl (Nat.le_of_ble_eq_true rfl) ?_
  refine V_if_eq C dX12_move_4 rfl (fun c3 => ?_) (fun c3 => ?_)
  · replace h := ifp c3 h
    refine V_sub C [0] rfl ?_
    exact v_X12_move_14 C X h
  · replace h := ifn c3 h
    refine V_iload_n C 3 dX12_move_7 rfl rfl ?_
    obtain ⟨a5, e4, h⟩ := bnd_s h
    refine W_callsi C cf_X12_isSheet (c_X12_isSheet e4) q_ML_X12_279 dX12_move_8 (by decide) rfl rfl (Nat.le_of_ble_eq_true rfl) ?_
    refine V_if_ne C dX12_move_11 rfl (fun c6 => ?_) (fun c6 => ?_)
    · replace h := ifn c6 h
      refine V_aload_n C 0 dX12_move_20 rfl rfl ?_
      refine G_X12_bits (q := 172) C sk_172 q_FL_X12_34 dX12_move_21 ?_
      refine V_iload_n C 1 dX12_move_24 rfl rfl ?_
      obtain ⟨g7, h⟩ := gdt h
      refine W_iald (q := 181) C sk_181 g7 dX12_move_25 ?_
      refine V_if_eq C dX12_move_26 rfl (fun c8 => ?_) (fun c8 => ?_)
      · replace h := ifp c8 h
        refine V_sub C [0] rfl ?_
        exact v_X12_move_38 C X h
      · replace h := ifn c8 h
        refine V_aload_n C 0 dX12_move_29 rfl rfl ?_
        refine G_X12_bits (q := 172) C sk_172 q_FL_X12_34 dX12_move_30 ?_
        refine V_iload_n C 3 dX12_move_33 rfl rfl ?_
        obtain ⟨g9, h⟩ := gdt h
        refine W_iald (q := 181) C sk_181 g9 dX12_move_34 ?_
        refine V_if_ne C dX12_move_35 rfl (fun c10 => ?_) (fun c10 => ?_)
        · replace h := ifn c10 h
          refine V_aload_n C 0 dX12_move_44 rfl rfl ?_
          refine G_X12_bits (q := 172) C sk_172 q_FL_X12_34 dX12_move_45 ?_
          refine V_iload_n C 1 dX12_move_48 rfl rfl ?_
          obtain ⟨g11, h⟩ := gdt h
          refine W_iald (q := 181) C sk_181 g11 dX12_move_49 ?_
          refine V_aload_n C 0 dX12_move_50 rfl rfl ?_
          refine G_X12_bits (q := 172) C sk_172 q_FL_X12_34 dX12_move_51 ?_
          refine V_iload_n C 3 dX12_move_54 rfl rfl ?_
          obtain ⟨g12, h⟩ := gdt h
          refine W_iald (q := 181) C sk_181 g12 dX12_move_55 ?_
          refine V_icmp_eq C dX12_move_56 rfl (fun c13 => ?_) (fun c13 => ?_)
          · replace h := ifp c13 h
            refine V_iload C 5 dX12_move_65 rfl ?_
            refine V_if_lt C dX12_move_67 rfl (fun c14 => ?_) (fun c14 => ?_)
            · replace h := ifp c14 h
              refine V_sub C [0] rfl ?_
              exact v_X12_move_106 C X h
            · replace h := ifn c14 h
              refine V_iload_n C 2 dX12_move_70 rfl rfl ?_
              refine V_if_lt C dX12_move_71 rfl (fun c15 => ?_) (fun c15 => ?_)
              · replace h := ifp c15 h
                refine V_sub C [0] rfl ?_
                exact v_X12_move_106 C X h
              · replace h := ifn c15 h
                refine V_iload C 4 dX12_move_74 rfl ?_
                refine V_if_lt C dX12_move_76 rfl (fun c16 => ?_) (fun c16 => ?_)
                · replace h := ifp c16 h
                  refine V_sub C [0] rfl ?_
                  exact v_X12_move_106 C X h
                · replace h := ifn c16 h
                  refine V_iload_n C 2 dX12_move_79 rfl rfl ?_
                  refine V_aload_n C 0 dX12_move_80 rfl rfl ?_
                  refine G_X12_sizes (q := 172) C sk_172 q_FL_X12_37 dX12_move_81 ?_
                  refine V_iload_n C 1 dX12_move_84 rfl rfl ?_
                  obtain ⟨g17, h⟩ := gdt h
                  refine W_iald (q := 182) C sk_182 g17 dX12_move_85 ?_
                  refine V_iload C 5 dX12_move_86 rfl ?_
                  refine V_isub C dX12_move_88 ?_
                  refine V_icmp_gt C dX12_move_89 rfl (fun c18 => ?_) (fun c18 => ?_)
                  · replace h := ifp c18 h
                    refine V_sub C [0] rfl ?_
                    exact v_X12_move_106 C X h
                  · replace h := ifn c18 h
                    refine V_iload C 4 dX12_move_92 rfl ?_
                    refine V_aload_n C 0 dX12_move_94 rfl rfl ?_
                    refine G_X12_sizes (q := 172) C sk_172 q_FL_X12_37 dX12_move_95 ?_
                    refine V_iload_n C 3 dX12_move_98 rfl rfl ?_
                    obtain ⟨g19, h⟩ := gdt h
                    refine W_iald (q := 182) C sk_182 g19 dX12_move_99 ?_
                    refine V_iload C 5 dX12_move_100 rfl ?_
                    refine V_isub C dX12_move_102 ?_
                    refine V_icmp_le C dX12_move_103 rfl (fun c20 => ?_) (fun c20 => ?_)
                    · replace h := ifp c20 h
                      refine V_iconst C dX12_move_112 kc_i_0 ?_
                      refine V_istore (lv' := [(6, .int (0 : Int32)), (0, .ref (eA ε 172)), (1, .int v1), (2, .int v2), (3, .int v3), (4, .int v4), (5, .int v5)]) C dX12_move_113 (by decide) rfl ?_
                      refine V_sub C [1, 2, 3, 4, 5, 6, 0] rfl ?_
                      exact v_X12_move_115 C X N _ _ _ _ _ _ _ h
                    · replace h := ifn c20 h
                      refine V_sub C [0] rfl ?_
                      exact v_X12_move_106 C X h
          · replace h := ifn c13 h
            refine V_aload_n C 0 dX12_move_59 rfl rfl ?_
            refine V_iconst C dX12_move_60 kc_i_5 ?_
            obtain ⟨a22, S23, e21, h⟩ := bnd2_s h
            refine W_callvi C cf_X12_error (c_X12_error e21) q_ML_X12_60 (ws_X12 sk_172) rfl dX12_move_61 (by decide) rfl rfl (Nat.le_of_ble_eq_true rfl) ?_
            exact V_iret C X dX12_move_64 ⟨ri_1 h, ri_2 h⟩
        · replace h := ifp c10 h
          refine V_sub C [0] rfl ?_
          exact v_X12_move_38 C X h
    · replace h := ifp c6 h
      refine V_sub C [0] rfl ?_
      exact v_X12_move_14 C X h
theorem c_X12_move {ε : eT} {N : Nat} {S : St} {v1 : Int32} {v2 : Int32} {v3 : Int32} {v4 : Int32} {v5 : Int32} {res : (Int32 × St)} (h : f_X12_move N S v1 v2 v3 v4 v5 = some res) : CI ε yX12_move cX12_move 7 (some .int) 3 [.ref (eA ε 172), .int v1, .int v2, .int v3, .int v4, .int v5] S (some (.int res.1)) res.2 := CI_of (by decide) (Nat.le_of_ble_eq_true rfl) rfl (fun κ C X => v_X12_move_e C X h)
def f_X12_named (N : Nat) (S : St) (v1 : Int32) : Option (Int32 × St) :=
 bnd (f_X12_isThing S v1) (fun a2 =>
 (if a2 = 0 then
 bnd2 (f_X12_error S (1 : Int32)) (fun a5 S6 =>
 some (a5, S6))
 else
 bnd2 (f_X12_names N S v1) (fun a8 S9 =>
 some (a8, S9))))
set_option maxRecDepth 20000 in
theorem v_X12_named_e {ε : eT} {κ : kT} {N : Nat} (C : Act ε κ cX12_named 2 RX12 10) {S : St} {res : (Int32 × St)} (X : RI ε κ (some .int) (some (.int res.1)) res.2) {v1 : Int32} (h : f_X12_named N S v1 = some res) : V ε κ 2 0 [(0, .ref (eA ε 172)), (1, .int v1)] [] (wsOf ε S) 0 0 := by
  unfold f_X12_named at h
  refine V_aload_n C 0 dX12_named_0 rfl rfl ?_
  refine V_iload_n C 1 dX12_named_1 rfl rfl ?_
  obtain ⟨a2, e1, h⟩ := bnd_s h
  refine W_callvi C cf_X12_isThing (c_X12_isThing e1) q_ML_X12_92 (ws_X12 sk_172) rfl dX12_named_2 (by decide) rfl rfl (Nat.le_of_ble_eq_true rfl) ?_
  refine V_if_eq C dX12_named_5 rfl (fun c3 => ?_) (fun c3 => ?_)
  · replace h := ifp c3 h
    refine V_aload_n C 0 dX12_named_16 rfl rfl ?_
    refine V_iconst C dX12_named_17 kc_i_1 ?_
    obtain ⟨a5, S6, e4, h⟩ := bnd2_s h
    refine W_callvi C cf_X12_error (c_X12_error e4) q_ML_X12_60 (ws_X12 sk_172) rfl dX12_named_18 (by decide) rfl rfl (Nat.le_of_ble_eq_true rfl) ?_
    exact V_iret C X dX12_named_21 ⟨ri_1 h, ri_2 h⟩
  · replace h := ifn c3 h
    refine V_aload_n C 0 dX12_named_8 rfl rfl ?_
    refine V_iload_n C 1 dX12_named_9 rfl rfl ?_
    obtain ⟨a8, S9, e7, h⟩ := bnd2_s h
    refine W_callvi C cf_X12_names (c_X12_names e7) q_ML_X12_174 (ws_X12 sk_172) rfl dX12_named_10 (by decide) rfl rfl (Nat.le_of_ble_eq_true rfl) ?_
    refine V_goto C dX12_named_13 rfl ?_
    exact V_iret C X dX12_named_21 ⟨ri_1 h, ri_2 h⟩
theorem c_X12_named {ε : eT} {N : Nat} {S : St} {v1 : Int32} {res : (Int32 × St)} (h : f_X12_named N S v1 = some res) : CI ε yX12_named cX12_named 2 (some .int) 10 [.ref (eA ε 172), .int v1] S (some (.int res.1)) res.2 := CI_of (by decide) (Nat.le_of_ble_eq_true rfl) rfl (fun κ C X => v_X12_named_e C X h)
def f_X12_opens (S : St) : Option (Int32 × St) :=
 (if (S.1 172 6) = (5 : Int32) then
 some ((0 : Int32), S)
 else
 some ((1 : Int32), (pt (pt S 172 6 ((S.1 172 6) + (1 : Int32))) 172 5 (((pt S 172 6 ((S.1 172 6) + (1 : Int32))).1 172 5) + (1 : Int32)))))
set_option maxRecDepth 20000 in
theorem v_X12_opens_e {ε : eT} {κ : kT} (C : Act ε κ cX12_opens 1 RX12 1) {S : St} {res : (Int32 × St)} (X : RI ε κ (some .boolean) (some (.int res.1)) res.2) (h : f_X12_opens S = some res) : V ε κ 1 0 [(0, .ref (eA ε 172))] [] (wsOf ε S) 0 0 := by
  unfold f_X12_opens at h
  refine V_aload_n C 0 dX12_opens_0 rfl rfl ?_
  refine G_X12_open (q := 172) C sk_172 q_FL_X12_140 dX12_opens_1 ?_
  refine V_iconst C dX12_opens_4 kc_i_5 ?_
  refine V_icmp_ne C dX12_opens_5 rfl (fun c1 => ?_) (fun c1 => ?_)
  · replace h := ifn c1 h
    refine V_aload_n C 0 dX12_opens_10 rfl rfl ?_
    refine V_dup C dX12_opens_11 rfl ?_
    refine G_X12_open (q := 172) C sk_172 q_FL_X12_140 dX12_opens_12 ?_
    refine V_iconst C dX12_opens_15 kc_i_1 ?_
    refine V_iadd C dX12_opens_16 ?_
    refine P_X12_open (q := 172) C sk_172 q_FL_X12_140 dX12_opens_17 ?_
    refine V_aload_n C 0 dX12_opens_20 rfl rfl ?_
    refine V_dup C dX12_opens_21 rfl ?_
    refine G_X12_at (q := 172) C sk_172 q_FL_X12_106 dX12_opens_22 ?_
    refine V_iconst C dX12_opens_25 kc_i_1 ?_
    refine V_iadd C dX12_opens_26 ?_
    refine P_X12_at (q := 172) C sk_172 q_FL_X12_106 dX12_opens_27 ?_
    refine V_iconst C dX12_opens_30 kc_i_1 ?_
    exact V_zret C nb_1 X dX12_opens_31 ⟨ri_1 h, ri_2 h⟩
  · replace h := ifp c1 h
    refine V_iconst C dX12_opens_8 kc_i_0 ?_
    exact V_zret C nb_0 X dX12_opens_9 ⟨ri_1 h, ri_2 h⟩
theorem c_X12_opens {ε : eT} {S : St} {res : (Int32 × St)} (h : f_X12_opens S = some res) : CI ε yX12_opens cX12_opens 1 (some .boolean) 1 [.ref (eA ε 172)] S (some (.int res.1)) res.2 := CI_of (by decide) (Nat.le_of_ble_eq_true rfl) rfl (fun κ C X => v_X12_opens_e C X h)
def f_X12_whole_9 (N : Nat) (rc : St → Option (Int32 × St)) : Nat → St → Option (Int32 × St)
  | 0, _ => none
  | n + 1, S =>
    bnd (f_X12_look S) (fun a2 =>
     (if a2 = (124 : Int32) then
     bnd2 (f_X12_both N rc (pt S 172 5 ((S.1 172 5) + (1 : Int32)))) (fun a5 S6 =>
     (if a5 = 0 then
     some ((0 : Int32), S6)
     else
     bnd (f_X12_lays S6 (3 : Int32) (124 : Int32)) (fun S9 =>
     f_X12_whole_9 N rc n S9)))
     else
     some ((1 : Int32), S)))
set_option maxRecDepth 20000 in
theorem v_X12_whole_9 {ε : eT} {κ : kT} {N : Nat} {rc : St → Option (Int32 × St)} {e : Nat} (C : Act ε κ cX12_whole 1 RX12 (e + 5)) {res : (Int32 × St)} (X : RI ε κ (some .boolean) (some (.int res.1)) res.2) (hrc : ∀ (S : St) (res : (Int32 × St)), rc S = some res → CI ε yX12_one cX12_one 4 (some .boolean) e [.ref (eA ε 172)] S (some (.int res.1)) res.2) (he : 8 ≤ e) : ∀ (n : Nat) (S : St) (h : f_X12_whole_9 N rc n S = some res), V ε κ 1 9 [(0, .ref (eA ε 172))] [] (wsOf ε S) 0 0 := by
  intro n
  induction n with
  | zero => intro S h; cases h
  | succ n ih =>
    intro S h
    rw [f_X12_whole_9] at h
    refine V_aload_n C 0 dX12_whole_9 rfl rfl ?_
    obtain ⟨a2, e1, h⟩ := bnd_s h
    refine W_callvi C cf_X12_look (c_X12_look e1) q_ML_X12_120 (ws_X12 sk_172) rfl dX12_whole_10 (by omega) rfl rfl (Nat.le_of_ble_eq_true rfl) ?_
    refine V_bipush C dX12_whole_13 kc_b_124 ?_
    refine V_icmp_ne C dX12_whole_15 rfl (fun c3 => ?_) (fun c3 => ?_)
    · replace h := ifn c3 h
      refine V_iconst C dX12_whole_47 kc_i_1 ?_
      exact V_zret C nb_1 X dX12_whole_48 ⟨ri_1 h, ri_2 h⟩
    · replace h := ifp c3 h
      refine V_aload_n C 0 dX12_whole_18 rfl rfl ?_
      refine V_dup C dX12_whole_19 rfl ?_
      refine G_X12_at (q := 172) C sk_172 q_FL_X12_106 dX12_whole_20 ?_
      refine V_iconst C dX12_whole_23 kc_i_1 ?_
      refine V_iadd C dX12_whole_24 ?_
      refine P_X12_at (q := 172) C sk_172 q_FL_X12_106 dX12_whole_25 ?_
      refine V_aload_n C 0 dX12_whole_28 rfl rfl ?_
      obtain ⟨a5, S6, e4, h⟩ := bnd2_s h
      refine W_callvi C cf_X12_both (c_X12_both hrc he e4) q_ML_X12_116 (ws_X12 sk_172) rfl dX12_whole_29 (by omega) rfl rfl (Nat.le_of_ble_eq_true rfl) ?_
      refine V_if_ne C dX12_whole_32 rfl (fun c7 => ?_) (fun c7 => ?_)
      · replace h := ifn c7 h
        refine V_aload_n C 0 dX12_whole_37 rfl rfl ?_
        refine V_iconst C dX12_whole_38 kc_i_3 ?_
        refine V_bipush C dX12_whole_39 kc_b_124 ?_
        obtain ⟨S9, e8, h⟩ := bnd_s h
        refine W_callvn C cf_X12_lays (c_X12_lays e8) q_ML_X12_124 (ws_X12 sk_172) rfl dX12_whole_41 (by omega) rfl rfl (Nat.le_of_ble_eq_true rfl) ?_
        refine V_goto C dX12_whole_44 rfl ?_
        exact ih _ h
      · replace h := ifp c7 h
        refine V_iconst C dX12_whole_35 kc_i_0 ?_
        exact V_zret C nb_0 X dX12_whole_36 ⟨ri_1 h, ri_2 h⟩
def f_X12_whole (N : Nat) (rc : St → Option (Int32 × St)) (S : St) : Option (Int32 × St) :=
 bnd2 (f_X12_both N rc S) (fun a2 S3 =>
 (if a2 = 0 then
 some ((0 : Int32), S3)
 else
 f_X12_whole_9 N rc N S3))
set_option maxRecDepth 20000 in
theorem v_X12_whole_e {ε : eT} {κ : kT} {N : Nat} {rc : St → Option (Int32 × St)} {e : Nat} (C : Act ε κ cX12_whole 1 RX12 (e + 5)) {S : St} {res : (Int32 × St)} (X : RI ε κ (some .boolean) (some (.int res.1)) res.2) (hrc : ∀ (S : St) (res : (Int32 × St)), rc S = some res → CI ε yX12_one cX12_one 4 (some .boolean) e [.ref (eA ε 172)] S (some (.int res.1)) res.2) (he : 8 ≤ e) (h : f_X12_whole N rc S = some res) : V ε κ 1 0 [(0, .ref (eA ε 172))] [] (wsOf ε S) 0 0 := by
  unfold f_X12_whole at h
  refine V_aload_n C 0 dX12_whole_0 rfl rfl ?_
  obtain ⟨a2, S3, e1, h⟩ := bnd2_s h
  refine W_callvi C cf_X12_both (c_X12_both hrc he e1) q_ML_X12_116 (ws_X12 sk_172) rfl dX12_whole_1 (by omega) rfl rfl (Nat.le_of_ble_eq_true rfl) ?_
  refine V_if_ne C dX12_whole_4 rfl (fun c4 => ?_) (fun c4 => ?_)
  · replace h := ifn c4 h
    exact v_X12_whole_9 C X hrc he N _ h
  · replace h := ifp c4 h
    refine V_iconst C dX12_whole_7 kc_i_0 ?_
    exact V_zret C nb_0 X dX12_whole_8 ⟨ri_1 h, ri_2 h⟩
theorem c_X12_whole {ε : eT} {N : Nat} {rc : St → Option (Int32 × St)} {e : Nat} (hrc : ∀ (S : St) (res : (Int32 × St)), rc S = some res → CI ε yX12_one cX12_one 4 (some .boolean) e [.ref (eA ε 172)] S (some (.int res.1)) res.2) (he : 8 ≤ e) {S : St} {res : (Int32 × St)} (h : f_X12_whole N rc S = some res) : CI ε yX12_whole cX12_whole 1 (some .boolean) (e + 5) [.ref (eA ε 172)] S (some (.int res.1)) res.2 := CI_of (by decide) (Nat.le_of_ble_eq_true rfl) rfl (fun κ C X => v_X12_whole_e C X hrc he h)
def f_X12_one_94 (N : Nat) (rc : St → Option (Int32 × St)) (S : St) (v2 : Int32) : Option (Int32 × St) :=
 bnd (f_X12_lays S (0 : Int32) v2) (fun S2 =>
 some ((1 : Int32), S2))
set_option maxRecDepth 20000 in
theorem v_X12_one_94 {ε : eT} {κ : kT} {N : Nat} {rc : St → Option (Int32 × St)} {e : Nat} (C : Act ε κ cX12_one 4 RX12 (e + 6)) {S : St} {res : (Int32 × St)} (X : RI ε κ (some .boolean) (some (.int res.1)) res.2) (hrc : ∀ (S : St) (res : (Int32 × St)), rc S = some res → CI ε yX12_one cX12_one 4 (some .boolean) e [.ref (eA ε 172)] S (some (.int res.1)) res.2) (he : 8 ≤ e) {v2 : Int32} (h : f_X12_one_94 N rc S v2 = some res) : V ε κ 4 94 [(0, .ref (eA ε 172)), (2, .int v2)] [] (wsOf ε S) 0 0 := by
  unfold f_X12_one_94 at h
  refine V_aload_n C 0 dX12_one_94 rfl rfl ?_
  refine V_iconst C dX12_one_95 kc_i_0 ?_
  refine V_iload_n C 1 dX12_one_96 rfl rfl ?_
  obtain ⟨S2, e1, h⟩ := bnd_s h
  refine W_callvn C cf_X12_lays (c_X12_lays e1) q_ML_X12_124 (ws_X12 sk_172) rfl dX12_one_97 (by omega) rfl rfl (Nat.le_of_ble_eq_true rfl) ?_
  refine V_iconst C dX12_one_100 kc_i_1 ?_
  exact V_zret C nb_1 X dX12_one_101 ⟨ri_1 h, ri_2 h⟩
def f_X12_one_46 (N : Nat) (rc : St → Option (Int32 × St)) : Nat → St → Int32 → Int32 → Option (Int32 × St)
  | 0, _, _, _ => none
  | n + 1, S, v2, v3 =>
    (if (4 : Int32) ≤ v3 then
     f_X12_one_94 N rc S v2
     else
     bnd (f_X12_look S) (fun a3 =>
     bnd (f_X12_in S a3 (48 : Int32) (57 : Int32)) (fun a5 =>
     (if a5 = 0 then
     f_X12_one_94 N rc S v2
     else
     bnd (f_X12_look S) (fun a8 =>
     f_X12_one_46 N rc n (pt S 172 5 ((S.1 172 5) + (1 : Int32))) ((((10 : Int32) * v2) + a8) - (48 : Int32)) (v3 + 1))))))
set_option maxRecDepth 20000 in
theorem v_X12_one_46 {ε : eT} {κ : kT} {N : Nat} {rc : St → Option (Int32 × St)} {e : Nat} (C : Act ε κ cX12_one 4 RX12 (e + 6)) {res : (Int32 × St)} (X : RI ε κ (some .boolean) (some (.int res.1)) res.2) (hrc : ∀ (S : St) (res : (Int32 × St)), rc S = some res → CI ε yX12_one cX12_one 4 (some .boolean) e [.ref (eA ε 172)] S (some (.int res.1)) res.2) (he : 8 ≤ e) : ∀ (n : Nat) (S : St) (v2 : Int32) (v3 : Int32) (h : f_X12_one_46 N rc n S v2 v3 = some res), V ε κ 4 46 [(0, .ref (eA ε 172)), (2, .int v2), (3, .int v3)] [] (wsOf ε S) 0 0 := by
  intro n
  induction n with
  | zero => intro S v2 v3 h; cases h
  | succ n ih =>
    intro S v2 v3 h
    rw [f_X12_one_46] at h
    refine V_iload_n C 2 dX12_one_46 rfl rfl ?_
    refine V_iconst C dX12_one_47 kc_i_4 ?_
    refine V_icmp_ge C dX12_one_48 rfl (fun c1 => ?_) (fun c1 => ?_)
    · replace h := ifp c1 h
      refine V_sub C [0, 1] rfl ?_
      exact v_X12_one_94 C X hrc he h
    · replace h := ifn c1 h
      refine V_aload_n C 0 dX12_one_51 rfl rfl ?_
      obtain ⟨a3, e2, h⟩ := bnd_s h
      refine W_callvi C cf_X12_look (c_X12_look e2) q_ML_X12_120 (ws_X12 sk_172) rfl dX12_one_52 (by omega) rfl rfl (Nat.le_of_ble_eq_true rfl) ?_
      refine V_bipush C dX12_one_55 kc_b_48 ?_
      refine V_bipush C dX12_one_57 kc_b_57 ?_
      obtain ⟨a5, e4, h⟩ := bnd_s h
      refine W_callsi C cf_X12_in (c_X12_in e4) q_ML_X12_47 dX12_one_59 (by omega) rfl rfl (Nat.le_of_ble_eq_true rfl) ?_
      refine V_if_eq C dX12_one_62 rfl (fun c6 => ?_) (fun c6 => ?_)
      · replace h := ifp c6 h
        refine V_sub C [0, 1] rfl ?_
        exact v_X12_one_94 C X hrc he h
      · replace h := ifn c6 h
        refine V_bipush C dX12_one_65 kc_b_10 ?_
        refine V_iload_n C 1 dX12_one_67 rfl rfl ?_
        refine V_imul C dX12_one_68 ?_
        refine V_aload_n C 0 dX12_one_69 rfl rfl ?_
        obtain ⟨a8, e7, h⟩ := bnd_s h
        refine W_callvi C cf_X12_look (c_X12_look e7) q_ML_X12_120 (ws_X12 sk_172) rfl dX12_one_70 (by omega) rfl rfl (Nat.le_of_ble_eq_true rfl) ?_
        refine V_iadd C dX12_one_73 ?_
        refine V_bipush C dX12_one_74 kc_b_48 ?_
        refine V_isub C dX12_one_76 ?_
        refine V_istore_n (lv' := [(2, .int ((((10 : Int32) * v2) + a8) - (48 : Int32))), (0, .ref (eA ε 172)), (3, .int v3)]) C dX12_one_77 rfl (by decide) rfl ?_
        refine V_aload_n C 1 dX12_one_78 rfl rfl ?_
        refine V_dup C dX12_one_79 rfl ?_
        refine G_X12_at (q := 172) C sk_172 q_FL_X12_106 dX12_one_80 ?_
        refine V_iconst C dX12_one_83 kc_i_1 ?_
        refine V_iadd C dX12_one_84 ?_
        refine P_X12_at (q := 172) C sk_172 q_FL_X12_106 dX12_one_85 ?_
        refine V_iinc (v := (v3 + 1)) (lv' := [(3, .int (v3 + 1)), (2, .int ((((10 : Int32) * v2) + a8) - (48 : Int32))), (0, .ref (eA ε 172))]) C 2 dX12_one_88 rfl (congrArg _ kc_i_1) (by decide) rfl ?_
        refine V_goto C dX12_one_91 rfl ?_
        refine V_sub C [2, 1, 0] rfl ?_
        exact ih _ _ _ h
def f_X12_one (N : Nat) : Nat → St → Option (Int32 × St)
  | 0, _ => none
  | d + 1, S =>
    bnd (f_X12_look S) (fun a2 =>
     bnd (f_X12_isName S a2) (fun a4 =>
     (if a4 = 0 then
     bnd (f_X12_in S a2 (48 : Int32) (57 : Int32)) (fun a7 =>
     (if a7 = 0 then
     (if a2 = (33 : Int32) then
     bnd2 (f_X12_opens S) (fun a23 S24 =>
     (if a23 = 0 then
     some ((0 : Int32), S24)
     else
     bnd2 ((f_X12_one N d) S24) (fun a27 S28 =>
     (if a27 = 0 then
     some ((0 : Int32), S28)
     else
     bnd (f_X12_lays (pt S28 172 6 ((S28.1 172 6) - (1 : Int32))) (2 : Int32) (0 : Int32)) (fun S31 =>
     some ((1 : Int32), S31))))))
     else
     (if a2 = (40 : Int32) then
     bnd2 (f_X12_opens S) (fun a12 S13 =>
     (if a12 = 0 then
     some ((0 : Int32), S13)
     else
     bnd2 (f_X12_whole N (f_X12_one N d) S13) (fun a16 S17 =>
     (if a16 = 0 then
     some ((0 : Int32), S17)
     else
     bnd (f_X12_look S17) (fun a20 =>
     (if a20 = (41 : Int32) then
     some ((1 : Int32), (pt (pt S17 172 5 ((S17.1 172 5) + (1 : Int32))) 172 6 (((pt S17 172 5 ((S17.1 172 5) + (1 : Int32))).1 172 6) - (1 : Int32))))
     else
     some ((0 : Int32), S17)))))))
     else
     some ((0 : Int32), S)))
     else
     f_X12_one_46 N (f_X12_one N d) N S (0 : Int32) (0 : Int32)))
     else
     bnd (f_X12_lays (pt S 172 5 ((S.1 172 5) + (1 : Int32))) (1 : Int32) a2) (fun S33 =>
     some ((1 : Int32), S33)))))
def g_X12_one (N : Nat) (rc : St → Option (Int32 × St)) (S : St) : Option (Int32 × St) :=
 bnd (f_X12_look S) (fun a2 =>
     bnd (f_X12_isName S a2) (fun a4 =>
     (if a4 = 0 then
     bnd (f_X12_in S a2 (48 : Int32) (57 : Int32)) (fun a7 =>
     (if a7 = 0 then
     (if a2 = (33 : Int32) then
     bnd2 (f_X12_opens S) (fun a23 S24 =>
     (if a23 = 0 then
     some ((0 : Int32), S24)
     else
     bnd2 (rc S24) (fun a27 S28 =>
     (if a27 = 0 then
     some ((0 : Int32), S28)
     else
     bnd (f_X12_lays (pt S28 172 6 ((S28.1 172 6) - (1 : Int32))) (2 : Int32) (0 : Int32)) (fun S31 =>
     some ((1 : Int32), S31))))))
     else
     (if a2 = (40 : Int32) then
     bnd2 (f_X12_opens S) (fun a12 S13 =>
     (if a12 = 0 then
     some ((0 : Int32), S13)
     else
     bnd2 (f_X12_whole N rc S13) (fun a16 S17 =>
     (if a16 = 0 then
     some ((0 : Int32), S17)
     else
     bnd (f_X12_look S17) (fun a20 =>
     (if a20 = (41 : Int32) then
     some ((1 : Int32), (pt (pt S17 172 5 ((S17.1 172 5) + (1 : Int32))) 172 6 (((pt S17 172 5 ((S17.1 172 5) + (1 : Int32))).1 172 6) - (1 : Int32))))
     else
     some ((0 : Int32), S17)))))))
     else
     some ((0 : Int32), S)))
     else
     f_X12_one_46 N rc N S (0 : Int32) (0 : Int32)))
     else
     bnd (f_X12_lays (pt S 172 5 ((S.1 172 5) + (1 : Int32))) (1 : Int32) a2) (fun S33 =>
     some ((1 : Int32), S33)))))
set_option maxRecDepth 20000 in
theorem v_X12_one_e {ε : eT} {κ : kT} {N : Nat} {rc : St → Option (Int32 × St)} {e : Nat} (C : Act ε κ cX12_one 4 RX12 (e + 6)) {S : St} {res : (Int32 × St)} (X : RI ε κ (some .boolean) (some (.int res.1)) res.2) (hrc : ∀ (S : St) (res : (Int32 × St)), rc S = some res → CI ε yX12_one cX12_one 4 (some .boolean) e [.ref (eA ε 172)] S (some (.int res.1)) res.2) (he : 8 ≤ e) (h : g_X12_one N rc S = some res) : V ε κ 4 0 [(0, .ref (eA ε 172))] [] (wsOf ε S) 0 0 := by
  unfold g_X12_one at h
  refine V_aload_n C 0 dX12_one_0 rfl rfl ?_
  obtain ⟨a2, e1, h⟩ := bnd_s h
  refine W_callvi C cf_X12_look (c_X12_look e1) q_ML_X12_120 (ws_X12 sk_172) rfl dX12_one_1 (by omega) rfl rfl (Nat.le_of_ble_eq_true rfl) ?_
  refine V_istore_n (lv' := [(1, .int a2), (0, .ref (eA ε 172))]) C dX12_one_4 rfl (by decide) rfl ?_
  refine V_aload_n C 1 dX12_one_5 rfl rfl ?_
  refine V_iload_n C 0 dX12_one_6 rfl rfl ?_
  obtain ⟨a4, e3, h⟩ := bnd_s h
  refine W_callvi C cf_X12_isName (c_X12_isName e3) q_ML_X12_143 (ws_X12 sk_172) rfl dX12_one_7 (by omega) rfl rfl (Nat.le_of_ble_eq_true rfl) ?_
  refine V_if_eq C dX12_one_10 rfl (fun c5 => ?_) (fun c5 => ?_)
  · replace h := ifp c5 h
    refine V_iload_n C 0 dX12_one_31 rfl rfl ?_
    refine V_bipush C dX12_one_32 kc_b_48 ?_
    refine V_bipush C dX12_one_34 kc_b_57 ?_
    obtain ⟨a7, e6, h⟩ := bnd_s h
    refine W_callsi C cf_X12_in (c_X12_in e6) q_ML_X12_47 dX12_one_36 (by omega) rfl rfl (Nat.le_of_ble_eq_true rfl) ?_
    refine V_if_eq C dX12_one_39 rfl (fun c8 => ?_) (fun c8 => ?_)
    · replace h := ifp c8 h
      refine V_iload_n C 0 dX12_one_102 rfl rfl ?_
      refine V_bipush C dX12_one_103 kc_b_33 ?_
      refine V_icmp_ne C dX12_one_105 rfl (fun c9 => ?_) (fun c9 => ?_)
      · replace h := ifn c9 h
        refine V_iload_n C 0 dX12_one_142 rfl rfl ?_
        refine V_bipush C dX12_one_143 kc_b_40 ?_
        refine V_icmp_ne C dX12_one_145 rfl (fun c10 => ?_) (fun c10 => ?_)
        · replace h := ifn c10 h
          refine V_iconst C dX12_one_171 kc_i_0 ?_
          exact V_zret C nb_0 X dX12_one_172 ⟨ri_1 h, ri_2 h⟩
        · replace h := ifp c10 h
          refine V_aload_n C 1 dX12_one_148 rfl rfl ?_
          obtain ⟨a12, S13, e11, h⟩ := bnd2_s h
          refine W_callvi C cf_X12_opens (c_X12_opens e11) q_ML_X12_146 (ws_X12 sk_172) rfl dX12_one_149 (by omega) rfl rfl (Nat.le_of_ble_eq_true rfl) ?_
          refine V_if_eq C dX12_one_152 rfl (fun c14 => ?_) (fun c14 => ?_)
          · replace h := ifp c14 h
            refine V_iconst C dX12_one_171 kc_i_0 ?_
            exact V_zret C nb_0 X dX12_one_172 ⟨ri_1 h, ri_2 h⟩
          · replace h := ifn c14 h
            refine V_aload_n C 1 dX12_one_155 rfl rfl ?_
            obtain ⟨a16, S17, e15, h⟩ := bnd2_s h
            refine W_callvi C cf_X12_whole (c_X12_whole hrc he e15) q_ML_X12_149 (ws_X12 sk_172) rfl dX12_one_156 (by omega) rfl rfl (Nat.le_of_ble_eq_true rfl) ?_
            refine V_if_eq C dX12_one_159 rfl (fun c18 => ?_) (fun c18 => ?_)
            · replace h := ifp c18 h
              refine V_iconst C dX12_one_171 kc_i_0 ?_
              exact V_zret C nb_0 X dX12_one_172 ⟨ri_1 h, ri_2 h⟩
            · replace h := ifn c18 h
              refine V_aload_n C 1 dX12_one_162 rfl rfl ?_
              obtain ⟨a20, e19, h⟩ := bnd_s h
              refine W_callvi C cf_X12_look (c_X12_look e19) q_ML_X12_120 (ws_X12 sk_172) rfl dX12_one_163 (by omega) rfl rfl (Nat.le_of_ble_eq_true rfl) ?_
              refine V_bipush C dX12_one_166 kc_b_41 ?_
              refine V_icmp_eq C dX12_one_168 rfl (fun c21 => ?_) (fun c21 => ?_)
              · replace h := ifp c21 h
                refine V_aload_n C 1 dX12_one_173 rfl rfl ?_
                refine V_dup C dX12_one_174 rfl ?_
                refine G_X12_at (q := 172) C sk_172 q_FL_X12_106 dX12_one_175 ?_
                refine V_iconst C dX12_one_178 kc_i_1 ?_
                refine V_iadd C dX12_one_179 ?_
                refine P_X12_at (q := 172) C sk_172 q_FL_X12_106 dX12_one_180 ?_
                refine V_aload_n C 1 dX12_one_183 rfl rfl ?_
                refine V_dup C dX12_one_184 rfl ?_
                refine G_X12_open (q := 172) C sk_172 q_FL_X12_140 dX12_one_185 ?_
                refine V_iconst C dX12_one_188 kc_i_1 ?_
                refine V_isub C dX12_one_189 ?_
                refine P_X12_open (q := 172) C sk_172 q_FL_X12_140 dX12_one_190 ?_
                refine V_iconst C dX12_one_193 kc_i_1 ?_
                exact V_zret C nb_1 X dX12_one_194 ⟨ri_1 h, ri_2 h⟩
              · replace h := ifn c21 h
                refine V_iconst C dX12_one_171 kc_i_0 ?_
                exact V_zret C nb_0 X dX12_one_172 ⟨ri_1 h, ri_2 h⟩
      · replace h := ifp c9 h
        refine V_aload_n C 1 dX12_one_108 rfl rfl ?_
        obtain ⟨a23, S24, e22, h⟩ := bnd2_s h
        refine W_callvi C cf_X12_opens (c_X12_opens e22) q_ML_X12_146 (ws_X12 sk_172) rfl dX12_one_109 (by omega) rfl rfl (Nat.le_of_ble_eq_true rfl) ?_
        refine V_if_eq C dX12_one_112 rfl (fun c25 => ?_) (fun c25 => ?_)
        · replace h := ifp c25 h
          refine V_iconst C dX12_one_122 kc_i_0 ?_
          exact V_zret C nb_0 X dX12_one_123 ⟨ri_1 h, ri_2 h⟩
        · replace h := ifn c25 h
          refine V_aload_n C 1 dX12_one_115 rfl rfl ?_
          obtain ⟨a27, S28, e26, h⟩ := bnd2_s h
          refine W_callvi C cf_X12_one (hrc _ _ e26) q_ML_X12_137 (ws_X12 sk_172) rfl dX12_one_116 (by omega) rfl rfl (Nat.le_of_ble_eq_true rfl) ?_
          refine V_if_ne C dX12_one_119 rfl (fun c29 => ?_) (fun c29 => ?_)
          · replace h := ifn c29 h
            refine V_aload_n C 1 dX12_one_124 rfl rfl ?_
            refine V_dup C dX12_one_125 rfl ?_
            refine G_X12_open (q := 172) C sk_172 q_FL_X12_140 dX12_one_126 ?_
            refine V_iconst C dX12_one_129 kc_i_1 ?_
            refine V_isub C dX12_one_130 ?_
            refine P_X12_open (q := 172) C sk_172 q_FL_X12_140 dX12_one_131 ?_
            refine V_aload_n C 1 dX12_one_134 rfl rfl ?_
            refine V_iconst C dX12_one_135 kc_i_2 ?_
            refine V_iconst C dX12_one_136 kc_i_0 ?_
            obtain ⟨S31, e30, h⟩ := bnd_s h
            refine W_callvn C cf_X12_lays (c_X12_lays e30) q_ML_X12_124 (ws_X12 sk_172) rfl dX12_one_137 (by omega) rfl rfl (Nat.le_of_ble_eq_true rfl) ?_
            refine V_iconst C dX12_one_140 kc_i_1 ?_
            exact V_zret C nb_1 X dX12_one_141 ⟨ri_1 h, ri_2 h⟩
          · replace h := ifp c29 h
            refine V_iconst C dX12_one_122 kc_i_0 ?_
            exact V_zret C nb_0 X dX12_one_123 ⟨ri_1 h, ri_2 h⟩
    · replace h := ifn c8 h
      refine V_iconst C dX12_one_42 kc_i_0 ?_
      refine V_istore_n (lv' := [(2, .int (0 : Int32)), (1, .int a2), (0, .ref (eA ε 172))]) C dX12_one_43 rfl (by decide) rfl ?_
      refine V_iconst C dX12_one_44 kc_i_0 ?_
      refine V_istore_n (lv' := [(3, .int (0 : Int32)), (2, .int (0 : Int32)), (1, .int a2), (0, .ref (eA ε 172))]) C dX12_one_45 rfl (by decide) rfl ?_
      refine V_sub C [3, 1, 0] rfl ?_
      exact v_X12_one_46 C X hrc he N _ _ _ h
  · replace h := ifn c5 h
    refine V_aload_n C 1 dX12_one_13 rfl rfl ?_
    refine V_dup C dX12_one_14 rfl ?_
    refine G_X12_at (q := 172) C sk_172 q_FL_X12_106 dX12_one_15 ?_
    refine V_iconst C dX12_one_18 kc_i_1 ?_
    refine V_iadd C dX12_one_19 ?_
    refine P_X12_at (q := 172) C sk_172 q_FL_X12_106 dX12_one_20 ?_
    refine V_aload_n C 1 dX12_one_23 rfl rfl ?_
    refine V_iconst C dX12_one_24 kc_i_1 ?_
    refine V_iload_n C 0 dX12_one_25 rfl rfl ?_
    obtain ⟨S33, e32, h⟩ := bnd_s h
    refine W_callvn C cf_X12_lays (c_X12_lays e32) q_ML_X12_124 (ws_X12 sk_172) rfl dX12_one_26 (by omega) rfl rfl (Nat.le_of_ble_eq_true rfl) ?_
    refine V_iconst C dX12_one_29 kc_i_1 ?_
    exact V_zret C nb_1 X dX12_one_30 ⟨ri_1 h, ri_2 h⟩
theorem c_X12_one {ε : eT} {N : Nat} : ∀ (d : Nat) {S : St} {res : (Int32 × St)}, f_X12_one N d S = some res → CI ε yX12_one cX12_one 4 (some .boolean) (8 + 6 * d) [.ref (eA ε 172)] S (some (.int res.1)) res.2 := by
  intro d
  induction d with
  | zero => intro S  res  h; cases h
  | succ d ih =>
    intro S  res  h
    rw [show 8 + 6 * (d + 1) = (8 + 6 * d) + 6 from by omega]
    exact CI_of (by decide) (Nat.le_of_ble_eq_true rfl) rfl (fun κ C X => v_X12_one_e C X (rc := f_X12_one N d) (fun S  res h => ih h) (by omega) h)
def f_X12_pair_32 (S : St) : Option (Int32 × St) :=
 bnd2 (f_X12_error S (1 : Int32)) (fun a2 S3 =>
 some (a2, S3))
set_option maxRecDepth 20000 in
theorem v_X12_pair_32 {ε : eT} {κ : kT} (C : Act ε κ cX12_pair 5 RX12 3) {S : St} {res : (Int32 × St)} (X : RI ε κ (some .int) (some (.int res.1)) res.2) (h : f_X12_pair_32 S = some res) : V ε κ 5 32 [(0, .ref (eA ε 172))] [] (wsOf ε S) 0 0 := by
  unfold f_X12_pair_32 at h
  refine V_aload_n C 0 dX12_pair_32 rfl rfl ?_
  refine V_iconst C dX12_pair_33 kc_i_1 ?_
  obtain ⟨a2, S3, e1, h⟩ := bnd2_s h
  refine W_callvi C cf_X12_error (c_X12_error e1) q_ML_X12_60 (ws_X12 sk_172) rfl dX12_pair_34 (by decide) rfl rfl (Nat.le_of_ble_eq_true rfl) ?_
  exact V_iret C X dX12_pair_37 ⟨ri_1 h, ri_2 h⟩
def f_X12_pair (S : St) (v1 : Int32) (v2 : Int32) (v3 : Int32) : Option (Int32 × St) :=
 bnd (f_X12_isThing S v1) (fun a2 =>
 (if a2 = 0 then
 f_X12_pair_32 S
 else
 bnd (f_X12_isThing S v2) (fun a5 =>
 (if a5 = 0 then
 f_X12_pair_32 S
 else
 (if v1 = v2 then
 f_X12_pair_32 S
 else
 bnd (f_X12_in S v3 (0 : Int32) (9999 : Int32)) (fun a9 =>
 (if a9 = 0 then
 f_X12_pair_32 S
 else
 (if (S.1 173 2) = (6 : Int32) then
 bnd2 (f_X12_error S (4 : Int32)) (fun a16 S17 =>
 some (a16, S17))
 else
 (if inb ((92 : Int32) + ((3 : Int32) * (S.1 173 2))) 516 = true then
 (if inb (((92 : Int32) + ((3 : Int32) * (S.1 173 2))) + (1 : Int32)) 516 = true then
 (if inb (((92 : Int32) + ((3 : Int32) * (S.1 173 2))) + (2 : Int32)) 516 = true then
 some ((((pt (pt (pt (pt S 173 ((92 : Int32) + ((3 : Int32) * (S.1 173 2))).toNatClampNeg v1) 173 (((92 : Int32) + ((3 : Int32) * (S.1 173 2))) + (1 : Int32)).toNatClampNeg v2) 173 (((92 : Int32) + ((3 : Int32) * (S.1 173 2))) + (2 : Int32)).toNatClampNeg v3) 173 2 (((pt (pt (pt S 173 ((92 : Int32) + ((3 : Int32) * (S.1 173 2))).toNatClampNeg v1) 173 (((92 : Int32) + ((3 : Int32) * (S.1 173 2))) + (1 : Int32)).toNatClampNeg v2) 173 (((92 : Int32) + ((3 : Int32) * (S.1 173 2))) + (2 : Int32)).toNatClampNeg v3).1 173 2) + (1 : Int32))).1 173 2) - (1 : Int32)), (pt (pt (pt (pt S 173 ((92 : Int32) + ((3 : Int32) * (S.1 173 2))).toNatClampNeg v1) 173 (((92 : Int32) + ((3 : Int32) * (S.1 173 2))) + (1 : Int32)).toNatClampNeg v2) 173 (((92 : Int32) + ((3 : Int32) * (S.1 173 2))) + (2 : Int32)).toNatClampNeg v3) 173 2 (((pt (pt (pt S 173 ((92 : Int32) + ((3 : Int32) * (S.1 173 2))).toNatClampNeg v1) 173 (((92 : Int32) + ((3 : Int32) * (S.1 173 2))) + (1 : Int32)).toNatClampNeg v2) 173 (((92 : Int32) + ((3 : Int32) * (S.1 173 2))) + (2 : Int32)).toNatClampNeg v3).1 173 2) + (1 : Int32))))
 else none)
 else none)
 else none)))))))))
set_option maxRecDepth 20000 in
theorem v_X12_pair_e {ε : eT} {κ : kT} (C : Act ε κ cX12_pair 5 RX12 3) {S : St} {res : (Int32 × St)} (X : RI ε κ (some .int) (some (.int res.1)) res.2) {v1 : Int32} {v2 : Int32} {v3 : Int32} (h : f_X12_pair S v1 v2 v3 = some res) : V ε κ 5 0 [(0, .ref (eA ε 172)), (1, .int v1), (2, .int v2), (3, .int v3)] [] (wsOf ε S) 0 0 := by
  unfold f_X12_pair at h
  refine V_aload_n C 0 dX12_pair_0 rfl rfl ?_
  refine V_iload_n C 1 dX12_pair_1 rfl rfl ?_
  obtain ⟨a2, e1, h⟩ := bnd_s h
  refine W_callvi C cf_X12_isThing (c_X12_isThing e1) q_ML_X12_92 (ws_X12 sk_172) rfl dX12_pair_2 (by decide) rfl rfl (Nat.le_of_ble_eq_true rfl) ?_
  refine V_if_eq C dX12_pair_5 rfl (fun c3 => ?_) (fun c3 => ?_)
  · replace h := ifp c3 h
    refine V_sub C [0] rfl ?_
    exact v_X12_pair_32 C X h
  · replace h := ifn c3 h
    refine V_aload_n C 0 dX12_pair_8 rfl rfl ?_
    refine V_iload_n C 2 dX12_pair_9 rfl rfl ?_
    obtain ⟨a5, e4, h⟩ := bnd_s h
    refine W_callvi C cf_X12_isThing (c_X12_isThing e4) q_ML_X12_92 (ws_X12 sk_172) rfl dX12_pair_10 (by decide) rfl rfl (Nat.le_of_ble_eq_true rfl) ?_
    refine V_if_eq C dX12_pair_13 rfl (fun c6 => ?_) (fun c6 => ?_)
    · replace h := ifp c6 h
      refine V_sub C [0] rfl ?_
      exact v_X12_pair_32 C X h
    · replace h := ifn c6 h
      refine V_iload_n C 1 dX12_pair_16 rfl rfl ?_
      refine V_iload_n C 2 dX12_pair_17 rfl rfl ?_
      refine V_icmp_eq C dX12_pair_18 rfl (fun c7 => ?_) (fun c7 => ?_)
      · replace h := ifp c7 h
        refine V_sub C [0] rfl ?_
        exact v_X12_pair_32 C X h
      · replace h := ifn c7 h
        refine V_iload_n C 3 dX12_pair_21 rfl rfl ?_
        refine V_iconst C dX12_pair_22 kc_i_0 ?_
        refine V_sipush C dX12_pair_23 kc_s_9999 ?_
        obtain ⟨a9, e8, h⟩ := bnd_s h
        refine W_callsi C cf_X12_in (c_X12_in e8) q_ML_X12_47 dX12_pair_26 (by decide) rfl rfl (Nat.le_of_ble_eq_true rfl) ?_
        refine V_if_ne C dX12_pair_29 rfl (fun c10 => ?_) (fun c10 => ?_)
        · replace h := ifn c10 h
          refine V_aload_n C 0 dX12_pair_38 rfl rfl ?_
          refine G_X12_s (q := 172) C sk_172 q_FL_X12_7 dX12_pair_39 ?_
          refine V_iconst C dX12_pair_42 kc_i_2 ?_
          refine W_ialdc (q := 173) C sk_173 (j := 2) tn_2 (by decide) dX12_pair_43 ?_
          refine V_bipush C dX12_pair_44 kc_b_6 ?_
          refine V_icmp_ne C dX12_pair_46 rfl (fun c11 => ?_) (fun c11 => ?_)
          · replace h := ifn c11 h
            refine V_bipush C dX12_pair_55 kc_b_92 ?_
            refine V_iconst C dX12_pair_57 kc_i_3 ?_
            refine V_aload_n C 0 dX12_pair_58 rfl rfl ?_
            refine G_X12_s (q := 172) C sk_172 q_FL_X12_7 dX12_pair_59 ?_
            refine V_iconst C dX12_pair_62 kc_i_2 ?_
            refine W_ialdc (q := 173) C sk_173 (j := 2) tn_2 (by decide) dX12_pair_63 ?_
            refine V_imul C dX12_pair_64 ?_
            refine V_iadd C dX12_pair_65 ?_
            refine V_istore (lv' := [(4, .int ((92 : Int32) + ((3 : Int32) * (S.1 173 2)))), (0, .ref (eA ε 172)), (1, .int v1), (2, .int v2), (3, .int v3)]) C dX12_pair_66 (by decide) rfl ?_
            refine V_aload_n C 1 dX12_pair_68 rfl rfl ?_
            refine G_X12_s (q := 172) C sk_172 q_FL_X12_7 dX12_pair_69 ?_
            refine V_iload C 0 dX12_pair_72 rfl ?_
            refine V_iload_n C 2 dX12_pair_74 rfl rfl ?_
            obtain ⟨g12, h⟩ := gdt h
            refine W_iast (q := 173) C sk_173 g12 dX12_pair_75 ?_
            refine V_aload_n C 1 dX12_pair_76 rfl rfl ?_
            refine G_X12_s (q := 172) C sk_172 q_FL_X12_7 dX12_pair_77 ?_
            refine V_iload C 0 dX12_pair_80 rfl ?_
            refine V_iconst C dX12_pair_82 kc_i_1 ?_
            refine V_iadd C dX12_pair_83 ?_
            refine V_iload_n C 3 dX12_pair_84 rfl rfl ?_
            obtain ⟨g13, h⟩ := gdt h
            refine W_iast (q := 173) C sk_173 g13 dX12_pair_85 ?_
            refine V_aload_n C 1 dX12_pair_86 rfl rfl ?_
            refine G_X12_s (q := 172) C sk_172 q_FL_X12_7 dX12_pair_87 ?_
            refine V_iload C 0 dX12_pair_90 rfl ?_
            refine V_iconst C dX12_pair_92 kc_i_2 ?_
            refine V_iadd C dX12_pair_93 ?_
            refine V_iload_n C 4 dX12_pair_94 rfl rfl ?_
            obtain ⟨g14, h⟩ := gdt h
            refine W_iast (q := 173) C sk_173 g14 dX12_pair_95 ?_
            refine V_aload_n C 1 dX12_pair_96 rfl rfl ?_
            refine G_X12_s (q := 172) C sk_172 q_FL_X12_7 dX12_pair_97 ?_
            refine V_iconst C dX12_pair_100 kc_i_2 ?_
            refine V_dup2 C dX12_pair_101 rfl rfl ?_
            refine W_ialdc (q := 173) C sk_173 (j := 2) tn_2 (by decide) dX12_pair_102 ?_
            refine V_iconst C dX12_pair_103 kc_i_1 ?_
            refine V_iadd C dX12_pair_104 ?_
            refine W_iastc (q := 173) C sk_173 (j := 2) tn_2 (by decide) dX12_pair_105 ?_
            refine V_aload_n C 1 dX12_pair_106 rfl rfl ?_
            refine G_X12_s (q := 172) C sk_172 q_FL_X12_7 dX12_pair_107 ?_
            refine V_iconst C dX12_pair_110 kc_i_2 ?_
            refine W_ialdc (q := 173) C sk_173 (j := 2) tn_2 (by decide) dX12_pair_111 ?_
            refine V_iconst C dX12_pair_112 kc_i_1 ?_
            refine V_isub C dX12_pair_113 ?_
            exact V_iret C X dX12_pair_114 ⟨ri_1 h, ri_2 h⟩
          · replace h := ifp c11 h
            refine V_aload_n C 0 dX12_pair_49 rfl rfl ?_
            refine V_iconst C dX12_pair_50 kc_i_4 ?_
            obtain ⟨a16, S17, e15, h⟩ := bnd2_s h
            refine W_callvi C cf_X12_error (c_X12_error e15) q_ML_X12_60 (ws_X12 sk_172) rfl dX12_pair_51 (by decide) rfl rfl (Nat.le_of_ble_eq_true rfl) ?_
            exact V_iret C X dX12_pair_54 ⟨ri_1 h, ri_2 h⟩
        · replace h := ifp c10 h
          refine V_sub C [0] rfl ?_
          exact v_X12_pair_32 C X h
theorem c_X12_pair {ε : eT} {S : St} {v1 : Int32} {v2 : Int32} {v3 : Int32} {res : (Int32 × St)} (h : f_X12_pair S v1 v2 v3 = some res) : CI ε yX12_pair cX12_pair 5 (some .int) 3 [.ref (eA ε 172), .int v1, .int v2, .int v3] S (some (.int res.1)) res.2 := CI_of (by decide) (Nat.le_of_ble_eq_true rfl) rfl (fun κ C X => v_X12_pair_e C X h)
def f_X12_pairIs_25 (S : St) : Option (Int32 × St) :=
 bnd2 (f_X12_error S (1 : Int32)) (fun a2 S3 =>
 some (a2, S3))
set_option maxRecDepth 20000 in
theorem v_X12_pairIs_25 {ε : eT} {κ : kT} (C : Act ε κ cX12_pairIs 3 RX12 4) {S : St} {res : (Int32 × St)} (X : RI ε κ (some .int) (some (.int res.1)) res.2) (h : f_X12_pairIs_25 S = some res) : V ε κ 3 25 [(0, .ref (eA ε 172))] [] (wsOf ε S) 0 0 := by
  unfold f_X12_pairIs_25 at h
  refine V_aload_n C 0 dX12_pairIs_25 rfl rfl ?_
  refine V_iconst C dX12_pairIs_26 kc_i_1 ?_
  obtain ⟨a2, S3, e1, h⟩ := bnd2_s h
  refine W_callvi C cf_X12_error (c_X12_error e1) q_ML_X12_60 (ws_X12 sk_172) rfl dX12_pairIs_27 (by decide) rfl rfl (Nat.le_of_ble_eq_true rfl) ?_
  exact V_iret C X dX12_pairIs_30 ⟨ri_1 h, ri_2 h⟩
def f_X12_pairIs (S : St) (v1 : Int32) (v2 : Int32) : Option (Int32 × St) :=
 bnd (f_X12_in S v1 (0 : Int32) ((S.1 173 2) - (1 : Int32))) (fun a2 =>
 (if a2 = 0 then
 f_X12_pairIs_25 S
 else
 bnd (f_X12_in S v2 (0 : Int32) (3 : Int32)) (fun a5 =>
 (if a5 = 0 then
 f_X12_pairIs_25 S
 else
 (if (3 : Int32) ≤ v2 then
 bnd (f_X12_hasBonus S v1) (fun a9 =>
 some (a9, S))
 else
 bnd (f_X12_pairIts S v1 v2) (fun a11 =>
 some (a11, S)))))))
set_option maxRecDepth 20000 in
theorem v_X12_pairIs_e {ε : eT} {κ : kT} (C : Act ε κ cX12_pairIs 3 RX12 4) {S : St} {res : (Int32 × St)} (X : RI ε κ (some .int) (some (.int res.1)) res.2) {v1 : Int32} {v2 : Int32} (h : f_X12_pairIs S v1 v2 = some res) : V ε κ 3 0 [(0, .ref (eA ε 172)), (1, .int v1), (2, .int v2)] [] (wsOf ε S) 0 0 := by
  unfold f_X12_pairIs at h
  refine V_iload_n C 1 dX12_pairIs_0 rfl rfl ?_
  refine V_iconst C dX12_pairIs_1 kc_i_0 ?_
  refine V_aload_n C 0 dX12_pairIs_2 rfl rfl ?_
  refine G_X12_s (q := 172) C sk_172 q_FL_X12_7 dX12_pairIs_3 ?_
  refine V_iconst C dX12_pairIs_6 kc_i_2 ?_
  refine W_ialdc (q := 173) C sk_173 (j := 2) tn_2 (by decide) dX12_pairIs_7 ?_
  refine V_iconst C dX12_pairIs_8 kc_i_1 ?_
  refine V_isub C dX12_pairIs_9 ?_
  obtain ⟨a2, e1, h⟩ := bnd_s h
  refine W_callsi C cf_X12_in (c_X12_in e1) q_ML_X12_47 dX12_pairIs_10 (by decide) rfl rfl (Nat.le_of_ble_eq_true rfl) ?_
  refine V_if_eq C dX12_pairIs_13 rfl (fun c3 => ?_) (fun c3 => ?_)
  · replace h := ifp c3 h
    refine V_sub C [0] rfl ?_
    exact v_X12_pairIs_25 C X h
  · replace h := ifn c3 h
    refine V_iload_n C 2 dX12_pairIs_16 rfl rfl ?_
    refine V_iconst C dX12_pairIs_17 kc_i_0 ?_
    refine V_iconst C dX12_pairIs_18 kc_i_3 ?_
    obtain ⟨a5, e4, h⟩ := bnd_s h
    refine W_callsi C cf_X12_in (c_X12_in e4) q_ML_X12_47 dX12_pairIs_19 (by decide) rfl rfl (Nat.le_of_ble_eq_true rfl) ?_
    refine V_if_ne C dX12_pairIs_22 rfl (fun c6 => ?_) (fun c6 => ?_)
    · replace h := ifn c6 h
      refine V_iload_n C 2 dX12_pairIs_31 rfl rfl ?_
      refine V_iconst C dX12_pairIs_32 kc_i_3 ?_
      refine V_icmp_ge C dX12_pairIs_33 rfl (fun c7 => ?_) (fun c7 => ?_)
      · replace h := ifp c7 h
        refine V_aload_n C 0 dX12_pairIs_45 rfl rfl ?_
        refine V_iload_n C 1 dX12_pairIs_46 rfl rfl ?_
        obtain ⟨a9, e8, h⟩ := bnd_s h
        refine W_callvi C cf_X12_hasBonus (c_X12_hasBonus e8) q_ML_X12_98 (ws_X12 sk_172) rfl dX12_pairIs_47 (by decide) rfl rfl (Nat.le_of_ble_eq_true rfl) ?_
        exact V_iret C X dX12_pairIs_50 ⟨ri_1 h, ri_2 h⟩
      · replace h := ifn c7 h
        refine V_aload_n C 0 dX12_pairIs_36 rfl rfl ?_
        refine V_iload_n C 1 dX12_pairIs_37 rfl rfl ?_
        refine V_iload_n C 2 dX12_pairIs_38 rfl rfl ?_
        obtain ⟨a11, e10, h⟩ := bnd_s h
        refine W_callvi C cf_X12_pairIts (c_X12_pairIts e10) q_ML_X12_64 (ws_X12 sk_172) rfl dX12_pairIs_39 (by decide) rfl rfl (Nat.le_of_ble_eq_true rfl) ?_
        refine V_goto C dX12_pairIs_42 rfl ?_
        exact V_iret C X dX12_pairIs_50 ⟨ri_1 h, ri_2 h⟩
    · replace h := ifp c6 h
      refine V_sub C [0] rfl ?_
      exact v_X12_pairIs_25 C X h
theorem c_X12_pairIs {ε : eT} {S : St} {v1 : Int32} {v2 : Int32} {res : (Int32 × St)} (h : f_X12_pairIs S v1 v2 = some res) : CI ε yX12_pairIs cX12_pairIs 3 (some .int) 4 [.ref (eA ε 172), .int v1, .int v2] S (some (.int res.1)) res.2 := CI_of (by decide) (Nat.le_of_ble_eq_true rfl) rfl (fun κ C X => v_X12_pairIs_e C X h)
def f_X12_sumOf_70 (N : Nat) (S : St) (K4 : Int32 → Int32 → Int32 → Option Int32) (v1 : Int32) (v3 : Int32) (s0 : Int32) (s1 : Int32) : Option Int32 :=
 K4 v1 (s1 + s0) (v3 + 1)
set_option maxRecDepth 20000 in
theorem v_X12_sumOf_70 {ε : eT} {κ : kT} {N : Nat} (C : Act ε κ cX12_sumOf 4 RX12 4) {S : St} {res : Int32} (X : RI ε κ (some .int) (some (.int res)) S) {K4 : Int32 → Int32 → Int32 → Option Int32} (hK4 : ∀ (v1 : Int32) (v2 : Int32) (v3 : Int32), K4 v1 v2 v3 = some res → V ε κ 4 4 [(0, .ref (eA ε 172)), (1, .int v1), (2, .int v2), (3, .int v3)] [] (wsOf ε S) 0 0) {v1 : Int32} {v3 : Int32} {s0 : Int32} {s1 : Int32} (h : f_X12_sumOf_70 N S K4 v1 v3 s0 s1 = some res) : V ε κ 4 70 [(0, .ref (eA ε 172)), (1, .int v1), (3, .int v3)] [.int s0, .int s1] (wsOf ε S) 0 0 := by
  unfold f_X12_sumOf_70 at h
  refine V_iadd C dX12_sumOf_70 ?_
  refine V_istore_n (lv' := [(2, .int (s1 + s0)), (0, .ref (eA ε 172)), (1, .int v1), (3, .int v3)]) C dX12_sumOf_71 rfl (by decide) rfl ?_
  refine V_iinc (v := (v3 + 1)) (lv' := [(3, .int (v3 + 1)), (2, .int (s1 + s0)), (0, .ref (eA ε 172)), (1, .int v1)]) C 3 dX12_sumOf_72 rfl (congrArg _ kc_i_1) (by decide) rfl ?_
  refine V_goto C dX12_sumOf_75 rfl ?_
  refine V_sub C [2, 3, 1, 0] rfl ?_
  exact hK4 _ _ _ h
def f_X12_sumOf_113 (N : Nat) (S : St) (K80 : Int32 → Int32 → Int32 → Option Int32) (v1 : Int32) (v3 : Int32) (s0 : Int32) (s1 : Int32) : Option Int32 :=
 K80 v1 (s1 + s0) (v3 + 1)
set_option maxRecDepth 20000 in
theorem v_X12_sumOf_113 {ε : eT} {κ : kT} {N : Nat} (C : Act ε κ cX12_sumOf 4 RX12 4) {S : St} {res : Int32} (X : RI ε κ (some .int) (some (.int res)) S) {K80 : Int32 → Int32 → Int32 → Option Int32} (hK80 : ∀ (v1 : Int32) (v2 : Int32) (v3 : Int32), K80 v1 v2 v3 = some res → V ε κ 4 80 [(0, .ref (eA ε 172)), (1, .int v1), (2, .int v2), (3, .int v3)] [] (wsOf ε S) 0 0) {v1 : Int32} {v3 : Int32} {s0 : Int32} {s1 : Int32} (h : f_X12_sumOf_113 N S K80 v1 v3 s0 s1 = some res) : V ε κ 4 113 [(0, .ref (eA ε 172)), (1, .int v1), (3, .int v3)] [.int s0, .int s1] (wsOf ε S) 0 0 := by
  unfold f_X12_sumOf_113 at h
  refine V_iadd C dX12_sumOf_113 ?_
  refine V_istore_n (lv' := [(2, .int (s1 + s0)), (0, .ref (eA ε 172)), (1, .int v1), (3, .int v3)]) C dX12_sumOf_114 rfl (by decide) rfl ?_
  refine V_iinc (v := (v3 + 1)) (lv' := [(3, .int (v3 + 1)), (2, .int (s1 + s0)), (0, .ref (eA ε 172)), (1, .int v1)]) C 3 dX12_sumOf_115 rfl (congrArg _ kc_i_1) (by decide) rfl ?_
  refine V_goto C dX12_sumOf_118 rfl ?_
  refine V_sub C [2, 3, 1, 0] rfl ?_
  exact hK80 _ _ _ h
def f_X12_sumOf_80 (N : Nat) (S : St) : Nat → Int32 → Int32 → Int32 → Option Int32
  | 0, _, _, _ => none
  | n + 1, v1, v2, v3 =>
    (if (S.1 173 2) ≤ v3 then
     some v2
     else
     (if v1 = 0 then
     bnd (f_X12_hasBonus S v3) (fun a4 =>
     (if 0 ≤ a4 then
     bnd (f_X12_pairIts S v3 (2 : Int32)) (fun a7 =>
     f_X12_sumOf_113 N S (f_X12_sumOf_80 N S n) v1 v3 a7 v2)
     else
     f_X12_sumOf_113 N S (f_X12_sumOf_80 N S n) v1 v3 (0 : Int32) v2))
     else
     some v2))
set_option maxRecDepth 20000 in
theorem v_X12_sumOf_80 {ε : eT} {κ : kT} {N : Nat} (C : Act ε κ cX12_sumOf 4 RX12 4) {S : St} {res : Int32} (X : RI ε κ (some .int) (some (.int res)) S) : ∀ (n : Nat) (v1 : Int32) (v2 : Int32) (v3 : Int32) (h : f_X12_sumOf_80 N S n v1 v2 v3 = some res), V ε κ 4 80 [(0, .ref (eA ε 172)), (1, .int v1), (2, .int v2), (3, .int v3)] [] (wsOf ε S) 0 0 := by
  intro n
  induction n with
  | zero => intro v1 v2 v3 h; cases h
  | succ n ih =>
    intro v1 v2 v3 h
    rw [f_X12_sumOf_80] at h
    refine V_iload_n C 3 dX12_sumOf_80 rfl rfl ?_
    refine V_aload_n C 0 dX12_sumOf_81 rfl rfl ?_
    refine G_X12_s (q := 172) C sk_172 q_FL_X12_7 dX12_sumOf_82 ?_
    refine V_iconst C dX12_sumOf_85 kc_i_2 ?_
    refine W_ialdc (q := 173) C sk_173 (j := 2) tn_2 (by decide) dX12_sumOf_86 ?_
    refine V_icmp_ge C dX12_sumOf_87 rfl (fun c1 => ?_) (fun c1 => ?_)
    · replace h := ifp c1 h
      refine V_iload_n C 2 dX12_sumOf_121 rfl rfl ?_
      exact V_iret C X dX12_sumOf_122 ⟨rip_1 h, rfl⟩
    · replace h := ifn c1 h
      refine V_iload_n C 1 dX12_sumOf_90 rfl rfl ?_
      refine V_if_ne C dX12_sumOf_91 rfl (fun c2 => ?_) (fun c2 => ?_)
      · replace h := ifn c2 h
        refine V_iload_n C 2 dX12_sumOf_121 rfl rfl ?_
        exact V_iret C X dX12_sumOf_122 ⟨rip_1 h, rfl⟩
      · replace h := ifp c2 h
        refine V_iload_n C 2 dX12_sumOf_94 rfl rfl ?_
        refine V_aload_n C 0 dX12_sumOf_95 rfl rfl ?_
        refine V_iload_n C 3 dX12_sumOf_96 rfl rfl ?_
        obtain ⟨a4, e3, h⟩ := bnd_s h
        refine W_callvi C cf_X12_hasBonus (c_X12_hasBonus e3) q_ML_X12_98 (ws_X12 sk_172) rfl dX12_sumOf_97 (by decide) rfl rfl (Nat.le_of_ble_eq_true rfl) ?_
        refine V_if_ge C dX12_sumOf_100 rfl (fun c5 => ?_) (fun c5 => ?_)
        · replace h := ifp c5 h
          refine V_aload_n C 0 dX12_sumOf_107 rfl rfl ?_
          refine V_iload_n C 3 dX12_sumOf_108 rfl rfl ?_
          refine V_iconst C dX12_sumOf_109 kc_i_2 ?_
          obtain ⟨a7, e6, h⟩ := bnd_s h
          refine W_callvi C cf_X12_pairIts (c_X12_pairIts e6) q_ML_X12_64 (ws_X12 sk_172) rfl dX12_sumOf_110 (by decide) rfl rfl (Nat.le_of_ble_eq_true rfl) ?_
          refine V_sub C [0, 1, 3] rfl ?_
          exact v_X12_sumOf_113 C X ih h
        · replace h := ifn c5 h
          refine V_iconst C dX12_sumOf_103 kc_i_0 ?_
          refine V_goto C dX12_sumOf_104 rfl ?_
          refine V_sub C [0, 1, 3] rfl ?_
          exact v_X12_sumOf_113 C X ih h
def f_X12_sumOf_4 (N : Nat) (S : St) : Nat → Int32 → Int32 → Int32 → Option Int32
  | 0, _, _, _ => none
  | n + 1, v1, v2, v3 =>
    (if (S.1 173 1) ≤ v3 then
     f_X12_sumOf_80 N S N v1 v2 (0 : Int32)
     else
     (if v1 = 0 then
     bnd (f_X12_owner S v3) (fun a14 =>
     bnd (f_X12_valueTo S a14 v3) (fun a16 =>
     f_X12_sumOf_70 N S (f_X12_sumOf_4 N S n) v1 v3 a16 v2))
     else
     (if v1 = (1 : Int32) then
     bnd (f_X12_fondest N S v3) (fun a10 =>
     bnd (f_X12_valueTo S a10 v3) (fun a12 =>
     f_X12_sumOf_70 N S (f_X12_sumOf_4 N S n) v1 v3 a12 v2))
     else
     (if v1 = (5 : Int32) then
     bnd (f_X12_its S v3 (2 : Int32)) (fun a8 =>
     f_X12_sumOf_70 N S (f_X12_sumOf_4 N S n) v1 v3 a8 v2)
     else
     bnd (f_X12_its S v3 (1 : Int32)) (fun a6 =>
     f_X12_sumOf_70 N S (f_X12_sumOf_4 N S n) v1 v3 a6 v2)))))
set_option maxRecDepth 20000 in
theorem v_X12_sumOf_4 {ε : eT} {κ : kT} {N : Nat} (C : Act ε κ cX12_sumOf 4 RX12 4) {S : St} {res : Int32} (X : RI ε κ (some .int) (some (.int res)) S) : ∀ (n : Nat) (v1 : Int32) (v2 : Int32) (v3 : Int32) (h : f_X12_sumOf_4 N S n v1 v2 v3 = some res), V ε κ 4 4 [(0, .ref (eA ε 172)), (1, .int v1), (2, .int v2), (3, .int v3)] [] (wsOf ε S) 0 0 := by
  intro n
  induction n with
  | zero => intro v1 v2 v3 h; cases h
  | succ n ih =>
    intro v1 v2 v3 h
    rw [f_X12_sumOf_4] at h
    refine V_iload_n C 3 dX12_sumOf_4 rfl rfl ?_
    refine V_aload_n C 0 dX12_sumOf_5 rfl rfl ?_
    refine G_X12_s (q := 172) C sk_172 q_FL_X12_7 dX12_sumOf_6 ?_
    refine V_iconst C dX12_sumOf_9 kc_i_1 ?_
    refine W_ialdc (q := 173) C sk_173 (j := 1) tn_1 (by decide) dX12_sumOf_10 ?_
    refine V_icmp_ge C dX12_sumOf_11 rfl (fun c1 => ?_) (fun c1 => ?_)
    · replace h := ifp c1 h
      refine V_iconst C dX12_sumOf_78 kc_i_0 ?_
      refine V_istore_n (lv' := [(3, .int (0 : Int32)), (0, .ref (eA ε 172)), (1, .int v1), (2, .int v2)]) C dX12_sumOf_79 rfl (by decide) rfl ?_
      refine V_sub C [1, 2, 3, 0] rfl ?_
      exact v_X12_sumOf_80 C X N _ _ _ h
    · replace h := ifn c1 h
      refine V_iload_n C 2 dX12_sumOf_14 rfl rfl ?_
      refine V_iload_n C 1 dX12_sumOf_15 rfl rfl ?_
      refine V_if_ne C dX12_sumOf_16 rfl (fun c2 => ?_) (fun c2 => ?_)
      · replace h := ifn c2 h
        refine V_iload_n C 1 dX12_sumOf_32 rfl rfl ?_
        refine V_iconst C dX12_sumOf_33 kc_i_1 ?_
        refine V_icmp_ne C dX12_sumOf_34 rfl (fun c3 => ?_) (fun c3 => ?_)
        · replace h := ifn c3 h
          refine V_iload_n C 1 dX12_sumOf_50 rfl rfl ?_
          refine V_iconst C dX12_sumOf_51 kc_i_5 ?_
          refine V_icmp_ne C dX12_sumOf_52 rfl (fun c4 => ?_) (fun c4 => ?_)
          · replace h := ifn c4 h
            refine V_aload_n C 0 dX12_sumOf_64 rfl rfl ?_
            refine V_iload_n C 3 dX12_sumOf_65 rfl rfl ?_
            refine V_iconst C dX12_sumOf_66 kc_i_1 ?_
            obtain ⟨a6, e5, h⟩ := bnd_s h
            refine W_callvi C cf_X12_its (c_X12_its e5) q_ML_X12_51 (ws_X12 sk_172) rfl dX12_sumOf_67 (by decide) rfl rfl (Nat.le_of_ble_eq_true rfl) ?_
            refine V_sub C [0, 1, 3] rfl ?_
            exact v_X12_sumOf_70 C X ih h
          · replace h := ifp c4 h
            refine V_aload_n C 0 dX12_sumOf_55 rfl rfl ?_
            refine V_iload_n C 3 dX12_sumOf_56 rfl rfl ?_
            refine V_iconst C dX12_sumOf_57 kc_i_2 ?_
            obtain ⟨a8, e7, h⟩ := bnd_s h
            refine W_callvi C cf_X12_its (c_X12_its e7) q_ML_X12_51 (ws_X12 sk_172) rfl dX12_sumOf_58 (by decide) rfl rfl (Nat.le_of_ble_eq_true rfl) ?_
            refine V_goto C dX12_sumOf_61 rfl ?_
            refine V_sub C [0, 1, 3] rfl ?_
            exact v_X12_sumOf_70 C X ih h
        · replace h := ifp c3 h
          refine V_aload_n C 0 dX12_sumOf_37 rfl rfl ?_
          refine V_aload_n C 0 dX12_sumOf_38 rfl rfl ?_
          refine V_iload_n C 3 dX12_sumOf_39 rfl rfl ?_
          obtain ⟨a10, e9, h⟩ := bnd_s h
          refine W_callvi C cf_X12_fondest (c_X12_fondest e9) q_ML_X12_95 (ws_X12 sk_172) rfl dX12_sumOf_40 (by decide) rfl rfl (Nat.le_of_ble_eq_true rfl) ?_
          refine V_iload_n C 3 dX12_sumOf_43 rfl rfl ?_
          obtain ⟨a12, e11, h⟩ := bnd_s h
          refine W_callvi C cf_X12_valueTo (c_X12_valueTo e11) q_ML_X12_73 (ws_X12 sk_172) rfl dX12_sumOf_44 (by decide) rfl rfl (Nat.le_of_ble_eq_true rfl) ?_
          refine V_goto C dX12_sumOf_47 rfl ?_
          refine V_sub C [0, 1, 3] rfl ?_
          exact v_X12_sumOf_70 C X ih h
      · replace h := ifp c2 h
        refine V_aload_n C 0 dX12_sumOf_19 rfl rfl ?_
        refine V_aload_n C 0 dX12_sumOf_20 rfl rfl ?_
        refine V_iload_n C 3 dX12_sumOf_21 rfl rfl ?_
        obtain ⟨a14, e13, h⟩ := bnd_s h
        refine W_callvi C cf_X12_owner (c_X12_owner e13) q_ML_X12_67 (ws_X12 sk_172) rfl dX12_sumOf_22 (by decide) rfl rfl (Nat.le_of_ble_eq_true rfl) ?_
        refine V_iload_n C 3 dX12_sumOf_25 rfl rfl ?_
        obtain ⟨a16, e15, h⟩ := bnd_s h
        refine W_callvi C cf_X12_valueTo (c_X12_valueTo e15) q_ML_X12_73 (ws_X12 sk_172) rfl dX12_sumOf_26 (by decide) rfl rfl (Nat.le_of_ble_eq_true rfl) ?_
        refine V_goto C dX12_sumOf_29 rfl ?_
        refine V_sub C [0, 1, 3] rfl ?_
        exact v_X12_sumOf_70 C X ih h
def f_X12_sumOf (N : Nat) (S : St) (v1 : Int32) : Option Int32 :=
 f_X12_sumOf_4 N S N v1 (0 : Int32) (0 : Int32)
set_option maxRecDepth 20000 in
theorem v_X12_sumOf_e {ε : eT} {κ : kT} {N : Nat} (C : Act ε κ cX12_sumOf 4 RX12 4) {S : St} {res : Int32} (X : RI ε κ (some .int) (some (.int res)) S) {v1 : Int32} (h : f_X12_sumOf N S v1 = some res) : V ε κ 4 0 [(0, .ref (eA ε 172)), (1, .int v1)] [] (wsOf ε S) 0 0 := by
  unfold f_X12_sumOf at h
  refine V_iconst C dX12_sumOf_0 kc_i_0 ?_
  refine V_istore_n (lv' := [(2, .int (0 : Int32)), (0, .ref (eA ε 172)), (1, .int v1)]) C dX12_sumOf_1 rfl (by decide) rfl ?_
  refine V_iconst C dX12_sumOf_2 kc_i_0 ?_
  refine V_istore_n (lv' := [(3, .int (0 : Int32)), (2, .int (0 : Int32)), (0, .ref (eA ε 172)), (1, .int v1)]) C dX12_sumOf_3 rfl (by decide) rfl ?_
  refine V_sub C [2, 3, 1, 0] rfl ?_
  exact v_X12_sumOf_4 C X N _ _ _ h
theorem c_X12_sumOf {ε : eT} {N : Nat} {S : St} {v1 : Int32} {res : Int32} (h : f_X12_sumOf N S v1 = some res) : CI ε yX12_sumOf cX12_sumOf 4 (some .int) 4 [.ref (eA ε 172), .int v1] S (some (.int res)) S := CI_of (by decide) (Nat.le_of_ble_eq_true rfl) rfl (fun κ C X => v_X12_sumOf_e C X h)
def f_X12_townOf_24 (N : Nat) (S : St) (s0 : Int32) : Option Int32 :=
 (if inb s0 516 = true then
 some (S.1 173 s0.toNatClampNeg)
 else none)
set_option maxRecDepth 20000 in
theorem v_X12_townOf_24 {ε : eT} {κ : kT} {N : Nat} (C : Act ε κ cX12_townOf 4 RX12 5) {S : St} {res : Int32} (X : RI ε κ (some .int) (some (.int res)) S) {s0 : Int32} (h : f_X12_townOf_24 N S s0 = some res) : V ε κ 4 24 [] [.int s0, .ref (eA ε 173)] (wsOf ε S) 0 0 := by
  unfold f_X12_townOf_24 at h
  obtain ⟨g1, h⟩ := gdt h
  refine W_iald (q := 173) C sk_173 g1 dX12_townOf_24 ?_
  exact V_iret C X dX12_townOf_25 ⟨rip_1 h, rfl⟩
def f_X12_townOf_10 (N : Nat) (S : St) (v1 : Int32) : Option Int32 :=
 (if v1 = (3 : Int32) then
 f_X12_townOf_24 N S (5 : Int32)
 else
 f_X12_townOf_24 N S (4 : Int32))
set_option maxRecDepth 20000 in
theorem v_X12_townOf_10 {ε : eT} {κ : kT} {N : Nat} (C : Act ε κ cX12_townOf 4 RX12 5) {S : St} {res : Int32} (X : RI ε κ (some .int) (some (.int res)) S) {v1 : Int32} (h : f_X12_townOf_10 N S v1 = some res) : V ε κ 4 10 [(0, .ref (eA ε 172)), (1, .int v1)] [] (wsOf ε S) 0 0 := by
  unfold f_X12_townOf_10 at h
  refine V_aload_n C 0 dX12_townOf_10 rfl rfl ?_
  refine G_X12_s (q := 172) C sk_172 q_FL_X12_7 dX12_townOf_11 ?_
  refine V_iload_n C 1 dX12_townOf_14 rfl rfl ?_
  refine V_iconst C dX12_townOf_15 kc_i_3 ?_
  refine V_icmp_ne C dX12_townOf_16 rfl (fun c1 => ?_) (fun c1 => ?_)
  · replace h := ifn c1 h
    refine V_iconst C dX12_townOf_23 kc_i_4 ?_
    refine V_sub C [] rfl ?_
    exact v_X12_townOf_24 C X h
  · replace h := ifp c1 h
    refine V_iconst C dX12_townOf_19 kc_i_5 ?_
    refine V_goto C dX12_townOf_20 rfl ?_
    refine V_sub C [] rfl ?_
    exact v_X12_townOf_24 C X h
def f_X12_townOf_41 (N : Nat) (S : St) : Nat → Int32 → Int32 → Option Int32
  | 0, _, _ => none
  | n + 1, v2, v3 =>
    (if (S.1 173 0) ≤ v3 then
     some v2
     else
     bnd (f_X12_who S v3 (1 : Int32)) (fun a3 =>
     f_X12_townOf_41 N S n (v2 + a3) (v3 + 1)))
set_option maxRecDepth 20000 in
theorem v_X12_townOf_41 {ε : eT} {κ : kT} {N : Nat} (C : Act ε κ cX12_townOf 4 RX12 5) {S : St} {res : Int32} (X : RI ε κ (some .int) (some (.int res)) S) : ∀ (n : Nat) (v2 : Int32) (v3 : Int32) (h : f_X12_townOf_41 N S n v2 v3 = some res), V ε κ 4 41 [(0, .ref (eA ε 172)), (2, .int v2), (3, .int v3)] [] (wsOf ε S) 0 0 := by
  intro n
  induction n with
  | zero => intro v2 v3 h; cases h
  | succ n ih =>
    intro v2 v3 h
    rw [f_X12_townOf_41] at h
    refine V_iload_n C 2 dX12_townOf_41 rfl rfl ?_
    refine V_aload_n C 0 dX12_townOf_42 rfl rfl ?_
    refine G_X12_s (q := 172) C sk_172 q_FL_X12_7 dX12_townOf_43 ?_
    refine V_iconst C dX12_townOf_46 kc_i_0 ?_
    refine W_ialdc (q := 173) C sk_173 (j := 0) tn_0 (by decide) dX12_townOf_47 ?_
    refine V_icmp_ge C dX12_townOf_48 rfl (fun c1 => ?_) (fun c1 => ?_)
    · replace h := ifp c1 h
      refine V_iload_n C 1 dX12_townOf_66 rfl rfl ?_
      exact V_iret C X dX12_townOf_67 ⟨rip_1 h, rfl⟩
    · replace h := ifn c1 h
      refine V_iload_n C 1 dX12_townOf_51 rfl rfl ?_
      refine V_aload_n C 0 dX12_townOf_52 rfl rfl ?_
      refine V_iload_n C 2 dX12_townOf_53 rfl rfl ?_
      refine V_iconst C dX12_townOf_54 kc_i_1 ?_
      obtain ⟨a3, e2, h⟩ := bnd_s h
      refine W_callvi C cf_X12_who (c_X12_who e2) q_ML_X12_79 (ws_X12 sk_172) rfl dX12_townOf_55 (by decide) rfl rfl (Nat.le_of_ble_eq_true rfl) ?_
      refine V_iadd C dX12_townOf_58 ?_
      refine V_istore_n (lv' := [(2, .int (v2 + a3)), (0, .ref (eA ε 172)), (3, .int v3)]) C dX12_townOf_59 rfl (by decide) rfl ?_
      refine V_iinc (v := (v3 + 1)) (lv' := [(3, .int (v3 + 1)), (2, .int (v2 + a3)), (0, .ref (eA ε 172))]) C 2 dX12_townOf_60 rfl (congrArg _ kc_i_1) (by decide) rfl ?_
      refine V_goto C dX12_townOf_63 rfl ?_
      refine V_sub C [2, 1, 0] rfl ?_
      exact ih _ _ h
def f_X12_townOf (N : Nat) (S : St) (v1 : Int32) : Option Int32 :=
 (if v1 = (3 : Int32) then
 f_X12_townOf_10 N S v1
 else
 (if v1 = (4 : Int32) then
 f_X12_townOf_10 N S v1
 else
 (if v1 = (2 : Int32) then
 f_X12_townOf_41 N S N (0 : Int32) (0 : Int32)
 else
 bnd (f_X12_sumOf N S v1) (fun a5 =>
 some a5))))
set_option maxRecDepth 20000 in
theorem v_X12_townOf_e {ε : eT} {κ : kT} {N : Nat} (C : Act ε κ cX12_townOf 4 RX12 5) {S : St} {res : Int32} (X : RI ε κ (some .int) (some (.int res)) S) {v1 : Int32} (h : f_X12_townOf N S v1 = some res) : V ε κ 4 0 [(0, .ref (eA ε 172)), (1, .int v1)] [] (wsOf ε S) 0 0 := by
  unfold f_X12_townOf at h
  refine V_iload_n C 1 dX12_townOf_0 rfl rfl ?_
  refine V_iconst C dX12_townOf_1 kc_i_3 ?_
  refine V_icmp_eq C dX12_townOf_2 rfl (fun c1 => ?_) (fun c1 => ?_)
  · replace h := ifp c1 h
    exact v_X12_townOf_10 C X h
  · replace h := ifn c1 h
    refine V_iload_n C 1 dX12_townOf_5 rfl rfl ?_
    refine V_iconst C dX12_townOf_6 kc_i_4 ?_
    refine V_icmp_ne C dX12_townOf_7 rfl (fun c2 => ?_) (fun c2 => ?_)
    · replace h := ifn c2 h
      refine V_iload_n C 1 dX12_townOf_26 rfl rfl ?_
      refine V_iconst C dX12_townOf_27 kc_i_2 ?_
      refine V_icmp_eq C dX12_townOf_28 rfl (fun c3 => ?_) (fun c3 => ?_)
      · replace h := ifp c3 h
        refine V_iconst C dX12_townOf_37 kc_i_0 ?_
        refine V_istore_n (lv' := [(2, .int (0 : Int32)), (0, .ref (eA ε 172)), (1, .int v1)]) C dX12_townOf_38 rfl (by decide) rfl ?_
        refine V_iconst C dX12_townOf_39 kc_i_0 ?_
        refine V_istore_n (lv' := [(3, .int (0 : Int32)), (2, .int (0 : Int32)), (0, .ref (eA ε 172)), (1, .int v1)]) C dX12_townOf_40 rfl (by decide) rfl ?_
        refine V_sub C [2, 1, 0] rfl ?_
        exact v_X12_townOf_41 C X N _ _ h
      · replace h := ifn c3 h
        refine V_aload_n C 0 dX12_townOf_31 rfl rfl ?_
        refine V_iload_n C 1 dX12_townOf_32 rfl rfl ?_
        obtain ⟨a5, e4, h⟩ := bnd_s h
        refine W_callvi C cf_X12_sumOf (c_X12_sumOf e4) q_ML_X12_235 (ws_X12 sk_172) rfl dX12_townOf_33 (by decide) rfl rfl (Nat.le_of_ble_eq_true rfl) ?_
        exact V_iret C X dX12_townOf_36 ⟨rip_1 h, rfl⟩
    · replace h := ifp c2 h
      exact v_X12_townOf_10 C X h
theorem c_X12_townOf {ε : eT} {N : Nat} {S : St} {v1 : Int32} {res : Int32} (h : f_X12_townOf N S v1 = some res) : CI ε yX12_townOf cX12_townOf 4 (some .int) 5 [.ref (eA ε 172), .int v1] S (some (.int res)) S := CI_of (by decide) (Nat.le_of_ble_eq_true rfl) rfl (fun κ C X => v_X12_townOf_e C X h)
