def f_X5_size (S : St) (v0 : Nat) : Option Int32 :=
 some (S.1 v0 1)
set_option maxRecDepth 20000 in
theorem v_X5_size_e {ε : eT} {κ : kT} (C : Act ε κ cX5_size 1 RX5 1) {S : St} {res : Int32} (X : RI ε κ (some .int) (some (.int res)) S) {v0 : Nat} (h0 : sh v0 = 5) (h : f_X5_size S v0 = some res) : V ε κ 1 0 [(0, .ref (eA ε v0))] [] (wsOf ε S) 0 0 := by
  unfold f_X5_size at h
  refine V_aload_n C 0 dX5_size_0 rfl rfl ?_
  refine G_X5_size (q := v0) C h0 q_FL_X5_19 dX5_size_1 ?_
  exact V_iret C X dX5_size_4 ⟨rip_1 h, rfl⟩
theorem c_X5_size {ε : eT} {S : St} {v0 : Nat} {res : Int32} (h0 : sh v0 = 5) (h : f_X5_size S v0 = some res) : CI ε yX5_size cX5_size 1 (some .int) 1 [.ref (eA ε v0)] S (some (.int res)) S := CI_of (by decide) (Nat.le_of_ble_eq_true rfl) rfl (fun κ C X => v_X5_size_e C X h0 h)
def f_X8_size (S : St) (v0 : Nat) : Option Int32 :=
 bnd (f_X5_size S (v0 + 1)) (fun a2 =>
 some a2)
set_option maxRecDepth 20000 in
theorem v_X8_size_e {ε : eT} {κ : kT} (C : Act ε κ cX8_size 1 RX8 2) {S : St} {res : Int32} (X : RI ε κ (some .int) (some (.int res)) S) {v0 : Nat} (h0 : sh v0 = 8) (h : f_X8_size S v0 = some res) : V ε κ 1 0 [(0, .ref (eA ε v0))] [] (wsOf ε S) 0 0 := by
  unfold f_X8_size at h
  refine V_aload_n C 0 dX8_size_0 rfl rfl ?_
  refine G_X8_owners (q := v0) C h0 q_FL_X8_14 dX8_size_1 ?_
  obtain ⟨a2, e1, h⟩ := bnd_s h
  refine W_callvi C cf_X5_size (c_X5_size (so_8_1 h0) e1) q_ML_X8_35 (ws_X5 (so_8_1 h0)) rfl dX8_size_4 (by decide) rfl rfl (Nat.le_of_ble_eq_true rfl) ?_
  exact V_iret C X dX8_size_7 ⟨rip_1 h, rfl⟩
theorem c_X8_size {ε : eT} {S : St} {v0 : Nat} {res : Int32} (h0 : sh v0 = 8) (h : f_X8_size S v0 = some res) : CI ε yX8_size cX8_size 1 (some .int) 2 [.ref (eA ε v0)] S (some (.int res)) S := CI_of (by decide) (Nat.le_of_ble_eq_true rfl) rfl (fun κ C X => v_X8_size_e C X h0 h)
def f_X5_at (S : St) (v0 : Nat) (v1 : Int32) : Option Int32 :=
 (if v1 < 0 then
 some (0 : Int32)
 else
 (if (S.1 v0 1) ≤ v1 then
 some (0 : Int32)
 else
 (if (Int32.ofNat (ln (v0 + 1))) ≤ v1 then
 some (0 : Int32)
 else
 (if inb v1 (ln (v0 + 1)) = true then
 some (S.1 (v0 + 1) v1.toNatClampNeg)
 else none))))
set_option maxRecDepth 20000 in
theorem v_X5_at_e {ε : eT} {κ : kT} (C : Act ε κ cX5_at 2 RX5 1) {S : St} {res : Int32} (X : RI ε κ (some .int) (some (.int res)) S) {v0 : Nat} {v1 : Int32} (h0 : sh v0 = 5) (h : f_X5_at S v0 v1 = some res) : V ε κ 2 0 [(0, .ref (eA ε v0)), (1, .int v1)] [] (wsOf ε S) 0 0 := by
  unfold f_X5_at at h
  refine V_iload_n C 1 dX5_at_0 rfl rfl ?_
  refine V_if_lt C dX5_at_1 rfl (fun c1 => ?_) (fun c1 => ?_)
  · replace h := ifp c1 h
    refine V_iconst C dX5_at_30 kc_i_0 ?_
    exact V_iret C X dX5_at_31 ⟨rip_1 h, rfl⟩
  · replace h := ifn c1 h
    refine V_iload_n C 1 dX5_at_4 rfl rfl ?_
    refine V_aload_n C 0 dX5_at_5 rfl rfl ?_
    refine G_X5_size (q := v0) C h0 q_FL_X5_19 dX5_at_6 ?_
    refine V_icmp_ge C dX5_at_9 rfl (fun c2 => ?_) (fun c2 => ?_)
    · replace h := ifp c2 h
      refine V_iconst C dX5_at_30 kc_i_0 ?_
      exact V_iret C X dX5_at_31 ⟨rip_1 h, rfl⟩
    · replace h := ifn c2 h
      refine V_iload_n C 1 dX5_at_12 rfl rfl ?_
      refine V_aload_n C 0 dX5_at_13 rfl rfl ?_
      refine G_X5_numbers (q := v0) C h0 q_FL_X5_13 dX5_at_14 ?_
      refine W_alen (q := (v0 + 1)) C (so_5_1 h0) dX5_at_17 ?_
      refine V_icmp_ge C dX5_at_18 rfl (fun c3 => ?_) (fun c3 => ?_)
      · replace h := ifp c3 h
        refine V_iconst C dX5_at_30 kc_i_0 ?_
        exact V_iret C X dX5_at_31 ⟨rip_1 h, rfl⟩
      · replace h := ifn c3 h
        refine V_aload_n C 0 dX5_at_21 rfl rfl ?_
        refine G_X5_numbers (q := v0) C h0 q_FL_X5_13 dX5_at_22 ?_
        refine V_iload_n C 1 dX5_at_25 rfl rfl ?_
        obtain ⟨g4, h⟩ := gdt h
        refine W_iald (q := (v0 + 1)) C (so_5_1 h0) g4 dX5_at_26 ?_
        refine V_goto C dX5_at_27 rfl ?_
        exact V_iret C X dX5_at_31 ⟨rip_1 h, rfl⟩
theorem c_X5_at {ε : eT} {S : St} {v0 : Nat} {v1 : Int32} {res : Int32} (h0 : sh v0 = 5) (h : f_X5_at S v0 v1 = some res) : CI ε yX5_at cX5_at 2 (some .int) 1 [.ref (eA ε v0), .int v1] S (some (.int res)) S := CI_of (by decide) (Nat.le_of_ble_eq_true rfl) rfl (fun κ C X => v_X5_at_e C X h0 h)
def f_X8_valueOf (S : St) (v0 : Nat) (v1 : Int32) (v2 : Int32) : Option Int32 :=
 bnd (f_X5_at S (v0 + 9) ((v1 * (12 : Int32)) + v2)) (fun a2 =>
 bnd (f_X5_at S (v0 + 5) v2) (fun a4 =>
 some ((a2 * a4) / (100 : Int32))))
set_option maxRecDepth 20000 in
theorem v_X8_valueOf_e {ε : eT} {κ : kT} (C : Act ε κ cX8_valueOf 3 RX8 2) {S : St} {res : Int32} (X : RI ε κ (some .int) (some (.int res)) S) {v0 : Nat} {v1 : Int32} {v2 : Int32} (h0 : sh v0 = 8) (h : f_X8_valueOf S v0 v1 v2 = some res) : V ε κ 3 0 [(0, .ref (eA ε v0)), (1, .int v1), (2, .int v2)] [] (wsOf ε S) 0 0 := by
  unfold f_X8_valueOf at h
  refine V_aload_n C 0 dX8_valueOf_0 rfl rfl ?_
  refine G_X8_worthRows (q := v0) C h0 q_FL_X8_29 dX8_valueOf_1 ?_
  refine V_iload_n C 1 dX8_valueOf_4 rfl rfl ?_
  refine V_bipush C dX8_valueOf_5 kc_b_12 ?_
  refine V_imul C dX8_valueOf_7 ?_
  refine V_iload_n C 2 dX8_valueOf_8 rfl rfl ?_
  refine V_iadd C dX8_valueOf_9 ?_
  obtain ⟨a2, e1, h⟩ := bnd_s h
  refine W_callvi C cf_X5_at (c_X5_at (so_8_9 h0) e1) q_ML_X8_46 (ws_X5 (so_8_9 h0)) rfl dX8_valueOf_10 (by decide) rfl rfl (Nat.le_of_ble_eq_true rfl) ?_
  refine V_aload_n C 0 dX8_valueOf_13 rfl rfl ?_
  refine G_X8_sounds (q := v0) C h0 q_FL_X8_23 dX8_valueOf_14 ?_
  refine V_iload_n C 2 dX8_valueOf_17 rfl rfl ?_
  obtain ⟨a4, e3, h⟩ := bnd_s h
  refine W_callvi C cf_X5_at (c_X5_at (so_8_5 h0) e3) q_ML_X8_46 (ws_X5 (so_8_5 h0)) rfl dX8_valueOf_18 (by decide) rfl rfl (Nat.le_of_ble_eq_true rfl) ?_
  refine V_imul C dX8_valueOf_21 ?_
  refine V_bipush C dX8_valueOf_22 kc_b_100 ?_
  refine V_idiv C dX8_valueOf_24 (by decide) ?_
  exact V_iret C X dX8_valueOf_25 ⟨rip_1 h, rfl⟩
theorem c_X8_valueOf {ε : eT} {S : St} {v0 : Nat} {v1 : Int32} {v2 : Int32} {res : Int32} (h0 : sh v0 = 8) (h : f_X8_valueOf S v0 v1 v2 = some res) : CI ε yX8_valueOf cX8_valueOf 3 (some .int) 2 [.ref (eA ε v0), .int v1, .int v2] S (some (.int res)) S := CI_of (by decide) (Nat.le_of_ble_eq_true rfl) rfl (fun κ C X => v_X8_valueOf_e C X h0 h)
def f_X3_size (S : St) (v0 : Nat) : Option Int32 :=
 bnd (f_X5_size S (v0 + 1)) (fun a2 =>
 some a2)
set_option maxRecDepth 20000 in
theorem v_X3_size_e {ε : eT} {κ : kT} (C : Act ε κ cX3_size 1 RX3 2) {S : St} {res : Int32} (X : RI ε κ (some .int) (some (.int res)) S) {v0 : Nat} (h0 : sh v0 = 3) (h : f_X3_size S v0 = some res) : V ε κ 1 0 [(0, .ref (eA ε v0))] [] (wsOf ε S) 0 0 := by
  unfold f_X3_size at h
  refine V_aload_n C 0 dX3_size_0 rfl rfl ?_
  refine G_X3_kinds (q := v0) C h0 q_FL_X3_14 dX3_size_1 ?_
  obtain ⟨a2, e1, h⟩ := bnd_s h
  refine W_callvi C cf_X5_size (c_X5_size (so_3_1 h0) e1) q_ML_X3_29 (ws_X5 (so_3_1 h0)) rfl dX3_size_4 (by decide) rfl rfl (Nat.le_of_ble_eq_true rfl) ?_
  exact V_iret C X dX3_size_7 ⟨rip_1 h, rfl⟩
theorem c_X3_size {ε : eT} {S : St} {v0 : Nat} {res : Int32} (h0 : sh v0 = 3) (h : f_X3_size S v0 = some res) : CI ε yX3_size cX3_size 1 (some .int) 2 [.ref (eA ε v0)] S (some (.int res)) S := CI_of (by decide) (Nat.le_of_ble_eq_true rfl) rfl (fun κ C X => v_X3_size_e C X h0 h)
def f_X9_mostElse_50 (N : Nat) (S : St) (K17 : Nat → Int32 → Int32 → Int32 → Int32 → Option Int32) (v0 : Nat) (v1 : Int32) (v2 : Int32) (v3 : Int32) (v4 : Int32) : Option Int32 :=
 K17 v0 v1 v2 v3 (v4 + 1)
set_option maxRecDepth 20000 in
theorem v_X9_mostElse_50 {ε : eT} {κ : kT} {N : Nat} (C : Act ε κ cX9_mostElse 5 RX9 3) {S : St} {res : Int32} (X : RI ε κ (some .int) (some (.int res)) S) {K17 : Nat → Int32 → Int32 → Int32 → Int32 → Option Int32} (hK17 : ∀ (v0 : Nat) (v1 : Int32) (v2 : Int32) (v3 : Int32) (v4 : Int32) (_ : sh v0 = 9), K17 v0 v1 v2 v3 v4 = some res → V ε κ 5 17 [(0, .ref (eA ε v0)), (1, .int v1), (2, .int v2), (3, .int v3), (4, .int v4)] [] (wsOf ε S) 0 0) {v0 : Nat} {v1 : Int32} {v2 : Int32} {v3 : Int32} {v4 : Int32} (h0 : sh v0 = 9) (h : f_X9_mostElse_50 N S K17 v0 v1 v2 v3 v4 = some res) : V ε κ 5 50 [(0, .ref (eA ε v0)), (1, .int v1), (2, .int v2), (3, .int v3), (4, .int v4)] [] (wsOf ε S) 0 0 := by
  unfold f_X9_mostElse_50 at h
  refine V_iinc (v := (v4 + 1)) (lv' := [(4, .int (v4 + 1)), (0, .ref (eA ε v0)), (1, .int v1), (2, .int v2), (3, .int v3)]) C 4 dX9_mostElse_50 rfl (congrArg _ kc_i_1) (by decide) rfl ?_
  refine V_goto C dX9_mostElse_53 rfl ?_
  refine V_sub C [1, 2, 3, 4, 0] rfl ?_
  exact hK17 _ _ _ _ _ h0 h
def f_X9_mostElse_17 (N : Nat) (S : St) : Nat → Nat → Int32 → Int32 → Int32 → Int32 → Option Int32
  | 0, _, _, _, _, _ => none
  | n + 1, v0, v1, v2, v3, v4 =>
    bnd (f_X3_size S (v0 + 1)) (fun a2 =>
     (if a2 ≤ v4 then
     some v3
     else
     (if v4 = v2 then
     f_X9_mostElse_50 N S (f_X9_mostElse_17 N S n) v0 v1 v2 v3 v4
     else
     bnd (f_X8_valueOf S (v0 + 10) v4 v1) (fun a6 =>
     f_X9_mostElse_50 N S (f_X9_mostElse_17 N S n) v0 v1 v2 (if v3 < a6 then a6 else v3) v4))))
set_option maxRecDepth 20000 in
theorem v_X9_mostElse_17 {ε : eT} {κ : kT} {N : Nat} (C : Act ε κ cX9_mostElse 5 RX9 3) {S : St} {res : Int32} (X : RI ε κ (some .int) (some (.int res)) S) : ∀ (n : Nat) (v0 : Nat) (v1 : Int32) (v2 : Int32) (v3 : Int32) (v4 : Int32) (h0 : sh v0 = 9) (h : f_X9_mostElse_17 N S n v0 v1 v2 v3 v4 = some res), V ε κ 5 17 [(0, .ref (eA ε v0)), (1, .int v1), (2, .int v2), (3, .int v3), (4, .int v4)] [] (wsOf ε S) 0 0 := by
  intro n
  induction n with
  | zero => intro v0 v1 v2 v3 v4 h0 h; cases h
  | succ n ih =>
    intro v0 v1 v2 v3 v4 h0 h
    rw [f_X9_mostElse_17] at h
    refine V_iload C 4 dX9_mostElse_17 rfl ?_
    refine V_aload_n C 0 dX9_mostElse_19 rfl rfl ?_
    refine G_X9_people (q := v0) C h0 q_FL_X9_12 dX9_mostElse_20 ?_
    obtain ⟨a2, e1, h⟩ := bnd_s h
    refine W_callvi C cf_X3_size (c_X3_size (so_9_1 h0) e1) q_ML_X9_116 (ws_X3 (so_9_1 h0)) rfl dX9_mostElse_23 (by decide) rfl rfl (Nat.le_of_ble_eq_true rfl) ?_
    refine V_icmp_ge C dX9_mostElse_26 rfl (fun c3 => ?_) (fun c3 => ?_)
    · replace h := ifp c3 h
      refine V_iload_n C 3 dX9_mostElse_56 rfl rfl ?_
      exact V_iret C X dX9_mostElse_57 ⟨rip_1 h, rfl⟩
    · replace h := ifn c3 h
      refine V_iload C 4 dX9_mostElse_29 rfl ?_
      refine V_iload_n C 2 dX9_mostElse_31 rfl rfl ?_
      refine V_icmp_eq C dX9_mostElse_32 rfl (fun c4 => ?_) (fun c4 => ?_)
      · replace h := ifp c4 h
        exact v_X9_mostElse_50 C X ih h0 h
      · replace h := ifn c4 h
        refine V_iload_n C 3 dX9_mostElse_35 rfl rfl ?_
        refine V_aload_n C 0 dX9_mostElse_36 rfl rfl ?_
        refine G_X9_things (q := v0) C h0 q_FL_X9_21 dX9_mostElse_37 ?_
        refine V_iload C 4 dX9_mostElse_40 rfl ?_
        refine V_iload_n C 1 dX9_mostElse_42 rfl rfl ?_
        obtain ⟨a6, e5, h⟩ := bnd_s h
        refine W_callvi C cf_X8_valueOf (c_X8_valueOf (so_9_10 h0) e5) q_ML_X9_117 (ws_X8 (so_9_10 h0)) rfl dX9_mostElse_43 (by decide) rfl rfl (Nat.le_of_ble_eq_true rfl) ?_
        refine V_mmax C q_ML_X9_121 (by decide) (Nat.le_of_ble_eq_true rfl) ⟨Nat.zero_le _, Nat.zero_le _⟩ dX9_mostElse_46 ?_
        refine V_istore_n (lv' := [(3, .int (if v3 < a6 then a6 else v3)), (0, .ref (eA ε v0)), (1, .int v1), (2, .int v2), (4, .int v4)]) C dX9_mostElse_49 rfl (by decide) rfl ?_
        refine V_sub C [1, 2, 3, 0, 4] rfl ?_
        exact v_X9_mostElse_50 C X ih h0 h
def f_X9_mostElse (N : Nat) (S : St) (v0 : Nat) (v1 : Int32) : Option Int32 :=
 bnd (f_X5_at S (v0 + 11) v1) (fun a2 =>
 f_X9_mostElse_17 N S N v0 v1 a2 (0 : Int32) (0 : Int32))
set_option maxRecDepth 20000 in
theorem v_X9_mostElse_e {ε : eT} {κ : kT} {N : Nat} (C : Act ε κ cX9_mostElse 5 RX9 3) {S : St} {res : Int32} (X : RI ε κ (some .int) (some (.int res)) S) {v0 : Nat} {v1 : Int32} (h0 : sh v0 = 9) (h : f_X9_mostElse N S v0 v1 = some res) : V ε κ 5 0 [(0, .ref (eA ε v0)), (1, .int v1)] [] (wsOf ε S) 0 0 := by
  unfold f_X9_mostElse at h
  refine V_aload_n C 0 dX9_mostElse_0 rfl rfl ?_
  refine G_X9_things (q := v0) C h0 q_FL_X9_21 dX9_mostElse_1 ?_
  refine G_X8_owners (q := (v0 + 10)) C (so_9_10 h0) q_FL_X9_113 dX9_mostElse_4 ?_
  refine V_iload_n C 1 dX9_mostElse_7 rfl rfl ?_
  obtain ⟨a2, e1, h⟩ := bnd_s h
  refine W_callvi C cf_X5_at (c_X5_at (so_9_11 h0) e1) q_ML_X9_106 (ws_X5 (so_9_11 h0)) rfl dX9_mostElse_8 (by decide) rfl rfl (Nat.le_of_ble_eq_true rfl) ?_
  refine V_istore_n (lv' := [(2, .int a2), (0, .ref (eA ε v0)), (1, .int v1)]) C dX9_mostElse_11 rfl (by decide) rfl ?_
  refine V_iconst C dX9_mostElse_12 kc_i_0 ?_
  refine V_istore_n (lv' := [(3, .int (0 : Int32)), (2, .int a2), (0, .ref (eA ε v0)), (1, .int v1)]) C dX9_mostElse_13 rfl (by decide) rfl ?_
  refine V_iconst C dX9_mostElse_14 kc_i_0 ?_
  refine V_istore (lv' := [(4, .int (0 : Int32)), (3, .int (0 : Int32)), (2, .int a2), (0, .ref (eA ε v0)), (1, .int v1)]) C dX9_mostElse_15 (by decide) rfl ?_
  refine V_sub C [3, 4, 2, 1, 0] rfl ?_
  exact v_X9_mostElse_17 C X N _ _ _ _ _ h0 h
theorem c_X9_mostElse {ε : eT} {N : Nat} {S : St} {v0 : Nat} {v1 : Int32} {res : Int32} (h0 : sh v0 = 9) (h : f_X9_mostElse N S v0 v1 = some res) : CI ε yX9_mostElse cX9_mostElse 5 (some .int) 3 [.ref (eA ε v0), .int v1] S (some (.int res)) S := CI_of (by decide) (Nat.le_of_ble_eq_true rfl) rfl (fun κ C X => v_X9_mostElse_e C X h0 h)
def f_X7_stands (S : St) (v0 : Nat) : Option Int32 :=
 bnd (f_X5_size S (v0 + 1)) (fun a2 =>
 (if a2 ≤ 0 then
 some (0 : Int32)
 else
 some (1 : Int32)))
set_option maxRecDepth 20000 in
theorem v_X7_stands_e {ε : eT} {κ : kT} (C : Act ε κ cX7_stands 1 RX7 2) {S : St} {res : Int32} (X : RI ε κ (some .boolean) (some (.int res)) S) {v0 : Nat} (h0 : sh v0 = 7) (h : f_X7_stands S v0 = some res) : V ε κ 1 0 [(0, .ref (eA ε v0))] [] (wsOf ε S) 0 0 := by
  unfold f_X7_stands at h
  refine V_aload_n C 0 dX7_stands_0 rfl rfl ?_
  refine G_X7_code (q := v0) C h0 q_FL_X7_14 dX7_stands_1 ?_
  obtain ⟨a2, e1, h⟩ := bnd_s h
  refine W_callvi C cf_X5_size (c_X5_size (so_7_1 h0) e1) q_ML_X7_29 (ws_X5 (so_7_1 h0)) rfl dX7_stands_4 (by decide) rfl rfl (Nat.le_of_ble_eq_true rfl) ?_
  refine V_if_le C dX7_stands_7 rfl (fun c3 => ?_) (fun c3 => ?_)
  · replace h := ifp c3 h
    refine V_iconst C dX7_stands_14 kc_i_0 ?_
    exact V_zret C nb_0 X dX7_stands_15 ⟨rip_1 h, rfl⟩
  · replace h := ifn c3 h
    refine V_iconst C dX7_stands_10 kc_i_1 ?_
    refine V_goto C dX7_stands_11 rfl ?_
    exact V_zret C nb_1 X dX7_stands_15 ⟨rip_1 h, rfl⟩
theorem c_X7_stands {ε : eT} {S : St} {v0 : Nat} {res : Int32} (h0 : sh v0 = 7) (h : f_X7_stands S v0 = some res) : CI ε yX7_stands cX7_stands 1 (some .boolean) 2 [.ref (eA ε v0)] S (some (.int res)) S := CI_of (by decide) (Nat.le_of_ble_eq_true rfl) rfl (fun κ C X => v_X7_stands_e C X h0 h)
def f_X5_set (S : St) (v0 : Nat) (v1 : Int32) (v2 : Int32) : Option St :=
 (if v1 < 0 then
 some S
 else
 (if (S.1 v0 1) ≤ v1 then
 some S
 else
 (if (Int32.ofNat (ln (v0 + 1))) ≤ v1 then
 some S
 else
 (if inb v1 (ln (v0 + 1)) = true then
 some (pt S (v0 + 1) v1.toNatClampNeg v2)
 else none))))
set_option maxRecDepth 20000 in
theorem v_X5_set_e {ε : eT} {κ : kT} (C : Act ε κ cX5_set 3 RX5 1) {S : St} {res : St} (X : RI ε κ none none res) {v0 : Nat} {v1 : Int32} {v2 : Int32} (h0 : sh v0 = 5) (h : f_X5_set S v0 v1 v2 = some res) : V ε κ 3 0 [(0, .ref (eA ε v0)), (1, .int v1), (2, .int v2)] [] (wsOf ε S) 0 0 := by
  unfold f_X5_set at h
  refine V_iload_n C 1 dX5_set_0 rfl rfl ?_
  refine V_if_lt C dX5_set_1 rfl (fun c1 => ?_) (fun c1 => ?_)
  · replace h := ifp c1 h
    exact V_vret C X dX5_set_28 ⟨rfl, rv_2 h⟩
  · replace h := ifn c1 h
    refine V_iload_n C 1 dX5_set_4 rfl rfl ?_
    refine V_aload_n C 0 dX5_set_5 rfl rfl ?_
    refine G_X5_size (q := v0) C h0 q_FL_X5_19 dX5_set_6 ?_
    refine V_icmp_ge C dX5_set_9 rfl (fun c2 => ?_) (fun c2 => ?_)
    · replace h := ifp c2 h
      exact V_vret C X dX5_set_28 ⟨rfl, rv_2 h⟩
    · replace h := ifn c2 h
      refine V_iload_n C 1 dX5_set_12 rfl rfl ?_
      refine V_aload_n C 0 dX5_set_13 rfl rfl ?_
      refine G_X5_numbers (q := v0) C h0 q_FL_X5_13 dX5_set_14 ?_
      refine W_alen (q := (v0 + 1)) C (so_5_1 h0) dX5_set_17 ?_
      refine V_icmp_ge C dX5_set_18 rfl (fun c3 => ?_) (fun c3 => ?_)
      · replace h := ifp c3 h
        exact V_vret C X dX5_set_28 ⟨rfl, rv_2 h⟩
      · replace h := ifn c3 h
        refine V_aload_n C 0 dX5_set_21 rfl rfl ?_
        refine G_X5_numbers (q := v0) C h0 q_FL_X5_13 dX5_set_22 ?_
        refine V_iload_n C 1 dX5_set_25 rfl rfl ?_
        refine V_iload_n C 2 dX5_set_26 rfl rfl ?_
        obtain ⟨g4, h⟩ := gdt h
        refine W_iast (q := (v0 + 1)) C (so_5_1 h0) g4 dX5_set_27 ?_
        exact V_vret C X dX5_set_28 ⟨rfl, rv_2 h⟩
theorem c_X5_set {ε : eT} {S : St} {v0 : Nat} {v1 : Int32} {v2 : Int32} {res : St} (h0 : sh v0 = 5) (h : f_X5_set S v0 v1 v2 = some res) : CI ε yX5_set cX5_set 3 none 1 [.ref (eA ε v0), .int v1, .int v2] S none res := CI_of (by decide) (Nat.le_of_ble_eq_true rfl) rfl (fun κ C X => v_X5_set_e C X h0 h)
def f_X7_setName (S : St) (v0 : Nat) (v1 : Int32) (v2 : Int32) : Option St :=
 bnd (f_X5_set S (v0 + 3) v1 v2) (fun S2 =>
 some S2)
set_option maxRecDepth 20000 in
theorem v_X7_setName_e {ε : eT} {κ : kT} (C : Act ε κ cX7_setName 3 RX7 2) {S : St} {res : St} (X : RI ε κ none none res) {v0 : Nat} {v1 : Int32} {v2 : Int32} (h0 : sh v0 = 7) (h : f_X7_setName S v0 v1 v2 = some res) : V ε κ 3 0 [(0, .ref (eA ε v0)), (1, .int v1), (2, .int v2)] [] (wsOf ε S) 0 0 := by
  unfold f_X7_setName at h
  refine V_aload_n C 0 dX7_setName_0 rfl rfl ?_
  refine G_X7_names (q := v0) C h0 q_FL_X7_20 dX7_setName_1 ?_
  refine V_iload_n C 1 dX7_setName_4 rfl rfl ?_
  refine V_iload_n C 2 dX7_setName_5 rfl rfl ?_
  obtain ⟨S2, e1, h⟩ := bnd_s h
  refine W_callvn C cf_X5_set (c_X5_set (so_7_3 h0) e1) q_ML_X7_37 (ws_X5 (so_7_3 h0)) rfl dX7_setName_6 (by decide) rfl rfl (Nat.le_of_ble_eq_true rfl) ?_
  exact V_vret C X dX7_setName_9 ⟨rfl, rv_2 h⟩
theorem c_X7_setName {ε : eT} {S : St} {v0 : Nat} {v1 : Int32} {v2 : Int32} {res : St} (h0 : sh v0 = 7) (h : f_X7_setName S v0 v1 v2 = some res) : CI ε yX7_setName cX7_setName 3 none 2 [.ref (eA ε v0), .int v1, .int v2] S none res := CI_of (by decide) (Nat.le_of_ble_eq_true rfl) rfl (fun κ C X => v_X7_setName_e C X h0 h)
def f_X5_reset_19 (N : Nat) : Nat → St → Nat → Int32 → Option St
  | 0, _, _, _ => none
  | n + 1, S, v0, v2 =>
    (if (S.1 v0 1) ≤ v2 then
     some S
     else
     bnd (f_X5_set S v0 v2 (0 : Int32)) (fun S3 =>
     f_X5_reset_19 N n S3 v0 (v2 + 1)))
set_option maxRecDepth 20000 in
theorem v_X5_reset_19 {ε : eT} {κ : kT} {N : Nat} (C : Act ε κ cX5_reset 3 RX5 2) {res : St} (X : RI ε κ none none res) : ∀ (n : Nat) (S : St) (v0 : Nat) (v2 : Int32) (h0 : sh v0 = 5) (h : f_X5_reset_19 N n S v0 v2 = some res), V ε κ 3 19 [(0, .ref (eA ε v0)), (2, .int v2)] [] (wsOf ε S) 0 0 := by
  intro n
  induction n with
  | zero => intro S v0 v2 h0 h; cases h
  | succ n ih =>
    intro S v0 v2 h0 h
    rw [f_X5_reset_19] at h
    refine V_iload_n C 1 dX5_reset_19 rfl rfl ?_
    refine V_aload_n C 0 dX5_reset_20 rfl rfl ?_
    refine G_X5_size (q := v0) C h0 q_FL_X5_19 dX5_reset_21 ?_
    refine V_icmp_ge C dX5_reset_24 rfl (fun c1 => ?_) (fun c1 => ?_)
    · replace h := ifp c1 h
      exact V_vret C X dX5_reset_39 ⟨rfl, rv_2 h⟩
    · replace h := ifn c1 h
      refine V_aload_n C 0 dX5_reset_27 rfl rfl ?_
      refine V_iload_n C 1 dX5_reset_28 rfl rfl ?_
      refine V_iconst C dX5_reset_29 kc_i_0 ?_
      obtain ⟨S3, e2, h⟩ := bnd_s h
      refine W_callvn C cf_X5_set (c_X5_set h0 e2) q_ML_X5_27 (ws_X5 h0) rfl dX5_reset_30 (by decide) rfl rfl (Nat.le_of_ble_eq_true rfl) ?_
      refine V_iinc (v := (v2 + 1)) (lv' := [(2, .int (v2 + 1)), (0, .ref (eA ε v0))]) C 1 dX5_reset_33 rfl (congrArg _ kc_i_1) (by decide) rfl ?_
      refine V_goto C dX5_reset_36 rfl ?_
      refine V_sub C [1, 0] rfl ?_
      exact ih _ _ _ h0 h
def f_X5_reset (N : Nat) (S : St) (v0 : Nat) (v1 : Int32) : Option St :=
 f_X5_reset_19 N N (pt S v0 1 (if (0 : Int32) < (if (Int32.ofNat (ln (v0 + 1))) < v1 then (Int32.ofNat (ln (v0 + 1))) else v1) then (if (Int32.ofNat (ln (v0 + 1))) < v1 then (Int32.ofNat (ln (v0 + 1))) else v1) else (0 : Int32))) v0 (0 : Int32)
set_option maxRecDepth 20000 in
theorem v_X5_reset_e {ε : eT} {κ : kT} {N : Nat} (C : Act ε κ cX5_reset 3 RX5 2) {S : St} {res : St} (X : RI ε κ none none res) {v0 : Nat} {v1 : Int32} (h0 : sh v0 = 5) (h : f_X5_reset N S v0 v1 = some res) : V ε κ 3 0 [(0, .ref (eA ε v0)), (1, .int v1)] [] (wsOf ε S) 0 0 := by
  unfold f_X5_reset at h
  refine V_aload_n C 0 dX5_reset_0 rfl rfl ?_
  refine V_iconst C dX5_reset_1 kc_i_0 ?_
  refine V_iload_n C 1 dX5_reset_2 rfl rfl ?_
  refine V_aload_n C 0 dX5_reset_3 rfl rfl ?_
  refine G_X5_numbers (q := v0) C h0 q_FL_X5_13 dX5_reset_4 ?_
  refine W_alen (q := (v0 + 1)) C (so_5_1 h0) dX5_reset_7 ?_
  refine V_mmin C q_ML_X5_31 (by decide) (Nat.le_of_ble_eq_true rfl) ⟨Nat.zero_le _, Nat.zero_le _⟩ dX5_reset_8 ?_
  refine V_mmax C q_ML_X5_7 (by decide) (Nat.le_of_ble_eq_true rfl) ⟨Nat.zero_le _, Nat.zero_le _⟩ dX5_reset_11 ?_
  refine P_X5_size (q := v0) C h0 q_FL_X5_19 dX5_reset_14 ?_
  refine V_iconst C dX5_reset_17 kc_i_0 ?_
  refine V_istore_n (lv' := [(2, .int (0 : Int32)), (0, .ref (eA ε v0)), (1, .int v1)]) C dX5_reset_18 rfl (by decide) rfl ?_
  refine V_sub C [1, 0] rfl ?_
  exact v_X5_reset_19 C X N _ _ _ h0 h
theorem c_X5_reset {ε : eT} {N : Nat} {S : St} {v0 : Nat} {v1 : Int32} {res : St} (h0 : sh v0 = 5) (h : f_X5_reset N S v0 v1 = some res) : CI ε yX5_reset cX5_reset 3 none 2 [.ref (eA ε v0), .int v1] S none res := CI_of (by decide) (Nat.le_of_ble_eq_true rfl) rfl (fun κ C X => v_X5_reset_e C X h0 h)
def f_X5_add (S : St) (v0 : Nat) (v1 : Int32) : Option St :=
 (if (S.1 v0 1) < 0 then
 some S
 else
 (if (Int32.ofNat (ln (v0 + 1))) ≤ (S.1 v0 1) then
 some S
 else
 (if inb (S.1 v0 1) (ln (v0 + 1)) = true then
 some (pt (pt S (v0 + 1) (S.1 v0 1).toNatClampNeg v1) v0 1 (((pt S (v0 + 1) (S.1 v0 1).toNatClampNeg v1).1 v0 1) + (1 : Int32)))
 else none)))
set_option maxRecDepth 20000 in
theorem v_X5_add_e {ε : eT} {κ : kT} (C : Act ε κ cX5_add 2 RX5 1) {S : St} {res : St} (X : RI ε κ none none res) {v0 : Nat} {v1 : Int32} (h0 : sh v0 = 5) (h : f_X5_add S v0 v1 = some res) : V ε κ 2 0 [(0, .ref (eA ε v0)), (1, .int v1)] [] (wsOf ε S) 0 0 := by
  unfold f_X5_add at h
  refine V_aload_n C 0 dX5_add_0 rfl rfl ?_
  refine G_X5_size (q := v0) C h0 q_FL_X5_19 dX5_add_1 ?_
  refine V_if_lt C dX5_add_4 rfl (fun c1 => ?_) (fun c1 => ?_)
  · replace h := ifp c1 h
    exact V_vret C X dX5_add_39 ⟨rfl, rv_2 h⟩
  · replace h := ifn c1 h
    refine V_aload_n C 0 dX5_add_7 rfl rfl ?_
    refine G_X5_size (q := v0) C h0 q_FL_X5_19 dX5_add_8 ?_
    refine V_aload_n C 0 dX5_add_11 rfl rfl ?_
    refine G_X5_numbers (q := v0) C h0 q_FL_X5_13 dX5_add_12 ?_
    refine W_alen (q := (v0 + 1)) C (so_5_1 h0) dX5_add_15 ?_
    refine V_icmp_ge C dX5_add_16 rfl (fun c2 => ?_) (fun c2 => ?_)
    · replace h := ifp c2 h
      exact V_vret C X dX5_add_39 ⟨rfl, rv_2 h⟩
    · replace h := ifn c2 h
      refine V_aload_n C 0 dX5_add_19 rfl rfl ?_
      refine G_X5_numbers (q := v0) C h0 q_FL_X5_13 dX5_add_20 ?_
      refine V_aload_n C 0 dX5_add_23 rfl rfl ?_
      refine G_X5_size (q := v0) C h0 q_FL_X5_19 dX5_add_24 ?_
      refine V_iload_n C 1 dX5_add_27 rfl rfl ?_
      obtain ⟨g3, h⟩ := gdt h
      refine W_iast (q := (v0 + 1)) C (so_5_1 h0) g3 dX5_add_28 ?_
      refine V_aload_n C 0 dX5_add_29 rfl rfl ?_
      refine V_dup C dX5_add_30 rfl ?_
      refine G_X5_size (q := v0) C h0 q_FL_X5_19 dX5_add_31 ?_
      refine V_iconst C dX5_add_34 kc_i_1 ?_
      refine V_iadd C dX5_add_35 ?_
      refine P_X5_size (q := v0) C h0 q_FL_X5_19 dX5_add_36 ?_
      exact V_vret C X dX5_add_39 ⟨rfl, rv_2 h⟩
theorem c_X5_add {ε : eT} {S : St} {v0 : Nat} {v1 : Int32} {res : St} (h0 : sh v0 = 5) (h : f_X5_add S v0 v1 = some res) : CI ε yX5_add cX5_add 2 none 1 [.ref (eA ε v0), .int v1] S none res := CI_of (by decide) (Nat.le_of_ble_eq_true rfl) rfl (fun κ C X => v_X5_add_e C X h0 h)
def f_X5_pop (S : St) (v0 : Nat) : Option (Int32 × St) :=
 (if ((S.1 v0 1) - (1 : Int32)) < 0 then
 some ((0 : Int32), S)
 else
 (if ((S.1 v0 1) - (1 : Int32)) < (Int32.ofNat (ln (v0 + 1))) then
 (if inb ((S.1 v0 1) - (1 : Int32)) (ln (v0 + 1)) = true then
 some (((pt S v0 1 ((S.1 v0 1) - (1 : Int32))).1 (v0 + 1) ((S.1 v0 1) - (1 : Int32)).toNatClampNeg), (pt S v0 1 ((S.1 v0 1) - (1 : Int32))))
 else none)
 else
 some ((0 : Int32), S)))
set_option maxRecDepth 20000 in
theorem v_X5_pop_e {ε : eT} {κ : kT} (C : Act ε κ cX5_pop 2 RX5 1) {S : St} {res : (Int32 × St)} (X : RI ε κ (some .int) (some (.int res.1)) res.2) {v0 : Nat} (h0 : sh v0 = 5) (h : f_X5_pop S v0 = some res) : V ε κ 2 0 [(0, .ref (eA ε v0))] [] (wsOf ε S) 0 0 := by
  unfold f_X5_pop at h
  refine V_aload_n C 0 dX5_pop_0 rfl rfl ?_
  refine G_X5_size (q := v0) C h0 q_FL_X5_19 dX5_pop_1 ?_
  refine V_iconst C dX5_pop_4 kc_i_1 ?_
  refine V_isub C dX5_pop_5 ?_
  refine V_istore_n (lv' := [(1, .int ((S.1 v0 1) - (1 : Int32))), (0, .ref (eA ε v0))]) C dX5_pop_6 rfl (by decide) rfl ?_
  refine V_iload_n C 0 dX5_pop_7 rfl rfl ?_
  refine V_if_lt C dX5_pop_8 rfl (fun c1 => ?_) (fun c1 => ?_)
  · replace h := ifp c1 h
    refine V_iconst C dX5_pop_20 kc_i_0 ?_
    exact V_iret C X dX5_pop_21 ⟨ri_1 h, ri_2 h⟩
  · replace h := ifn c1 h
    refine V_iload_n C 0 dX5_pop_11 rfl rfl ?_
    refine V_aload_n C 1 dX5_pop_12 rfl rfl ?_
    refine G_X5_numbers (q := v0) C h0 q_FL_X5_13 dX5_pop_13 ?_
    refine W_alen (q := (v0 + 1)) C (so_5_1 h0) dX5_pop_16 ?_
    refine V_icmp_lt C dX5_pop_17 rfl (fun c2 => ?_) (fun c2 => ?_)
    · replace h := ifp c2 h
      refine V_aload_n C 1 dX5_pop_22 rfl rfl ?_
      refine V_iload_n C 0 dX5_pop_23 rfl rfl ?_
      refine P_X5_size (q := v0) C h0 q_FL_X5_19 dX5_pop_24 ?_
      refine V_aload_n C 1 dX5_pop_27 rfl rfl ?_
      refine G_X5_numbers (q := v0) C h0 q_FL_X5_13 dX5_pop_28 ?_
      refine V_iload_n C 0 dX5_pop_31 rfl rfl ?_
      obtain ⟨g3, h⟩ := gdt h
      refine W_iald (q := (v0 + 1)) C (so_5_1 h0) g3 dX5_pop_32 ?_
      exact V_iret C X dX5_pop_33 ⟨ri_1 h, ri_2 h⟩
    · replace h := ifn c2 h
      refine V_iconst C dX5_pop_20 kc_i_0 ?_
      exact V_iret C X dX5_pop_21 ⟨ri_1 h, ri_2 h⟩
theorem c_X5_pop {ε : eT} {S : St} {v0 : Nat} {res : (Int32 × St)} (h0 : sh v0 = 5) (h : f_X5_pop S v0 = some res) : CI ε yX5_pop cX5_pop 2 (some .int) 1 [.ref (eA ε v0)] S (some (.int res.1)) res.2 := CI_of (by decide) (Nat.le_of_ble_eq_true rfl) rfl (fun κ C X => v_X5_pop_e C X h0 h)
def f_X7_joined_211 (S : St) : Option Int32 :=
 some (1 : Int32)
set_option maxRecDepth 20000 in
theorem v_X7_joined_211 {ε : eT} {κ : kT} (C : Act ε κ cX7_joined 3 RX7 1) {S : St} {res : Int32} (X : RI ε κ (some .int) (some (.int res)) S) (h : f_X7_joined_211 S = some res) : V ε κ 3 211 [] [] (wsOf ε S) 0 0 := by
  unfold f_X7_joined_211 at h
  refine V_iconst C dX7_joined_211 kc_i_1 ?_
  refine V_goto C dX7_joined_212 rfl ?_
  exact V_iret C X dX7_joined_216 ⟨rip_1 h, rfl⟩
def f_X7_joined (S : St) (v0 : Int32) (v1 : Int32) (v2 : Int32) : Option Int32 :=
 (if v0 = 37 then
 (if v2 = 0 then
 some (0 : Int32)
 else
 (if v2 = 0 then none else
 some (v1 - v1 / v2 * v2)))
 else
 (if v0 = 38 then
 (if v1 = 0 then
 some (0 : Int32)
 else
 (if v2 = 0 then
 some (0 : Int32)
 else
 some (1 : Int32)))
 else
 (if v0 = 42 then
 some (v1 * v2)
 else
 (if v0 = 43 then
 some (v1 + v2)
 else
 (if v0 = 45 then
 some (v1 - v2)
 else
 (if v0 = 47 then
 (if v2 = 0 then
 some (0 : Int32)
 else
 (if v2 = 0 then none else
 some (v1 / v2)))
 else
 (if v0 = 60 then
 (if v2 ≤ v1 then
 some (0 : Int32)
 else
 some (1 : Int32))
 else
 (if v0 = 61 then
 (if v1 = v2 then
 some (1 : Int32)
 else
 some (0 : Int32))
 else
 (if v0 = 62 then
 (if v1 ≤ v2 then
 some (0 : Int32)
 else
 some (1 : Int32))
 else
 (if v1 = 0 then
 (if v2 = 0 then
 some (0 : Int32)
 else
 f_X7_joined_211 S)
 else
 f_X7_joined_211 S))))))))))
set_option maxRecDepth 20000 in
theorem v_X7_joined_e {ε : eT} {κ : kT} (C : Act ε κ cX7_joined 3 RX7 1) {S : St} {res : Int32} (X : RI ε κ (some .int) (some (.int res)) S) {v0 : Int32} {v1 : Int32} {v2 : Int32} (h : f_X7_joined S v0 v1 v2 = some res) : V ε κ 3 0 [(0, .int v0), (1, .int v1), (2, .int v2)] [] (wsOf ε S) 0 0 := by
  unfold f_X7_joined at h
  refine V_iload_n C 0 dX7_joined_0 rfl rfl ?_
  by_cases c1 : v0 = 37
  · replace h := ifp c1 h
    refine V_table C rfl dX7_joined_1 (off := 143) (by rw [c1]; decide +kernel) (tgt := 144) rfl ?_
    refine V_iload_n C 2 dX7_joined_144 rfl rfl ?_
    refine V_if_ne C dX7_joined_145 rfl (fun c10 => ?_) (fun c10 => ?_)
    · replace h := ifn c10 h
      refine V_iload_n C 1 dX7_joined_152 rfl rfl ?_
      refine V_iload_n C 2 dX7_joined_153 rfl rfl ?_
      obtain ⟨g11, h⟩ := gdf h
      refine V_irem C dX7_joined_154 g11 ?_
      exact V_iret C X dX7_joined_155 ⟨rip_1 h, rfl⟩
    · replace h := ifp c10 h
      refine V_iconst C dX7_joined_148 kc_i_0 ?_
      refine V_goto C dX7_joined_149 rfl ?_
      exact V_iret C X dX7_joined_155 ⟨rip_1 h, rfl⟩
  · replace h := ifn c1 h
    by_cases c2 : v0 = 38
    · replace h := ifp c2 h
      refine V_table C rfl dX7_joined_1 (off := 188) (by rw [c2]; decide +kernel) (tgt := 189) rfl ?_
      refine V_iload_n C 1 dX7_joined_189 rfl rfl ?_
      refine V_if_eq C dX7_joined_190 rfl (fun c12 => ?_) (fun c12 => ?_)
      · replace h := ifp c12 h
        refine V_iconst C dX7_joined_201 kc_i_0 ?_
        exact V_iret C X dX7_joined_202 ⟨rip_1 h, rfl⟩
      · replace h := ifn c12 h
        refine V_iload_n C 2 dX7_joined_193 rfl rfl ?_
        refine V_if_eq C dX7_joined_194 rfl (fun c13 => ?_) (fun c13 => ?_)
        · replace h := ifp c13 h
          refine V_iconst C dX7_joined_201 kc_i_0 ?_
          exact V_iret C X dX7_joined_202 ⟨rip_1 h, rfl⟩
        · replace h := ifn c13 h
          refine V_iconst C dX7_joined_197 kc_i_1 ?_
          refine V_goto C dX7_joined_198 rfl ?_
          exact V_iret C X dX7_joined_202 ⟨rip_1 h, rfl⟩
    · replace h := ifn c2 h
      by_cases c3 : v0 = 42
      · replace h := ifp c3 h
        refine V_table C rfl dX7_joined_1 (off := 127) (by rw [c3]; decide +kernel) (tgt := 128) rfl ?_
        refine V_iload_n C 1 dX7_joined_128 rfl rfl ?_
        refine V_iload_n C 2 dX7_joined_129 rfl rfl ?_
        refine V_imul C dX7_joined_130 ?_
        exact V_iret C X dX7_joined_131 ⟨rip_1 h, rfl⟩
      · replace h := ifn c3 h
        by_cases c4 : v0 = 43
        · replace h := ifp c4 h
          refine V_table C rfl dX7_joined_1 (off := 119) (by rw [c4]; decide +kernel) (tgt := 120) rfl ?_
          refine V_iload_n C 1 dX7_joined_120 rfl rfl ?_
          refine V_iload_n C 2 dX7_joined_121 rfl rfl ?_
          refine V_iadd C dX7_joined_122 ?_
          exact V_iret C X dX7_joined_123 ⟨rip_1 h, rfl⟩
        · replace h := ifn c4 h
          by_cases c5 : v0 = 45
          · replace h := ifp c5 h
            refine V_table C rfl dX7_joined_1 (off := 123) (by rw [c5]; decide +kernel) (tgt := 124) rfl ?_
            refine V_iload_n C 1 dX7_joined_124 rfl rfl ?_
            refine V_iload_n C 2 dX7_joined_125 rfl rfl ?_
            refine V_isub C dX7_joined_126 ?_
            exact V_iret C X dX7_joined_127 ⟨rip_1 h, rfl⟩
          · replace h := ifn c5 h
            by_cases c6 : v0 = 47
            · replace h := ifp c6 h
              refine V_table C rfl dX7_joined_1 (off := 131) (by rw [c6]; decide +kernel) (tgt := 132) rfl ?_
              refine V_iload_n C 2 dX7_joined_132 rfl rfl ?_
              refine V_if_ne C dX7_joined_133 rfl (fun c14 => ?_) (fun c14 => ?_)
              · replace h := ifn c14 h
                refine V_iload_n C 1 dX7_joined_140 rfl rfl ?_
                refine V_iload_n C 2 dX7_joined_141 rfl rfl ?_
                obtain ⟨g15, h⟩ := gdf h
                refine V_idiv C dX7_joined_142 g15 ?_
                exact V_iret C X dX7_joined_143 ⟨rip_1 h, rfl⟩
              · replace h := ifp c14 h
                refine V_iconst C dX7_joined_136 kc_i_0 ?_
                refine V_goto C dX7_joined_137 rfl ?_
                exact V_iret C X dX7_joined_143 ⟨rip_1 h, rfl⟩
            · replace h := ifn c6 h
              by_cases c7 : v0 = 60
              · replace h := ifp c7 h
                refine V_table C rfl dX7_joined_1 (off := 155) (by rw [c7]; decide +kernel) (tgt := 156) rfl ?_
                refine V_iload_n C 1 dX7_joined_156 rfl rfl ?_
                refine V_iload_n C 2 dX7_joined_157 rfl rfl ?_
                refine V_icmp_ge C dX7_joined_158 rfl (fun c16 => ?_) (fun c16 => ?_)
                · replace h := ifp c16 h
                  refine V_iconst C dX7_joined_165 kc_i_0 ?_
                  exact V_iret C X dX7_joined_166 ⟨rip_1 h, rfl⟩
                · replace h := ifn c16 h
                  refine V_iconst C dX7_joined_161 kc_i_1 ?_
                  refine V_goto C dX7_joined_162 rfl ?_
                  exact V_iret C X dX7_joined_166 ⟨rip_1 h, rfl⟩
              · replace h := ifn c7 h
                by_cases c8 : v0 = 61
                · replace h := ifp c8 h
                  refine V_table C rfl dX7_joined_1 (off := 166) (by rw [c8]; decide +kernel) (tgt := 167) rfl ?_
                  refine V_iload_n C 1 dX7_joined_167 rfl rfl ?_
                  refine V_iload_n C 2 dX7_joined_168 rfl rfl ?_
                  refine V_icmp_ne C dX7_joined_169 rfl (fun c17 => ?_) (fun c17 => ?_)
                  · replace h := ifn c17 h
                    refine V_iconst C dX7_joined_176 kc_i_0 ?_
                    exact V_iret C X dX7_joined_177 ⟨rip_1 h, rfl⟩
                  · replace h := ifp c17 h
                    refine V_iconst C dX7_joined_172 kc_i_1 ?_
                    refine V_goto C dX7_joined_173 rfl ?_
                    exact V_iret C X dX7_joined_177 ⟨rip_1 h, rfl⟩
                · replace h := ifn c8 h
                  by_cases c9 : v0 = 62
                  · replace h := ifp c9 h
                    refine V_table C rfl dX7_joined_1 (off := 177) (by rw [c9]; decide +kernel) (tgt := 178) rfl ?_
                    refine V_iload_n C 1 dX7_joined_178 rfl rfl ?_
                    refine V_iload_n C 2 dX7_joined_179 rfl rfl ?_
                    refine V_icmp_le C dX7_joined_180 rfl (fun c18 => ?_) (fun c18 => ?_)
                    · replace h := ifp c18 h
                      refine V_iconst C dX7_joined_187 kc_i_0 ?_
                      exact V_iret C X dX7_joined_188 ⟨rip_1 h, rfl⟩
                    · replace h := ifn c18 h
                      refine V_iconst C dX7_joined_183 kc_i_1 ?_
                      refine V_goto C dX7_joined_184 rfl ?_
                      exact V_iret C X dX7_joined_188 ⟨rip_1 h, rfl⟩
                  · replace h := ifn c9 h
                    refine V_table C rfl dX7_joined_1 (swt_d [(37 : Int32), (38 : Int32), (42 : Int32), (43 : Int32), (45 : Int32), (47 : Int32), (60 : Int32), (61 : Int32), (62 : Int32)] (List.forall_mem_cons.mpr ⟨c1, (List.forall_mem_cons.mpr ⟨c2, (List.forall_mem_cons.mpr ⟨c3, (List.forall_mem_cons.mpr ⟨c4, (List.forall_mem_cons.mpr ⟨c5, (List.forall_mem_cons.mpr ⟨c6, (List.forall_mem_cons.mpr ⟨c7, (List.forall_mem_cons.mpr ⟨c8, (List.forall_mem_cons.mpr ⟨c9, (fun _ h => absurd h List.not_mem_nil)⟩)⟩)⟩)⟩)⟩)⟩)⟩)⟩)⟩) rfl (by decide +kernel)) (tgt := 203) rfl ?_
                    refine V_iload_n C 1 dX7_joined_203 rfl rfl ?_
                    refine V_if_ne C dX7_joined_204 rfl (fun c19 => ?_) (fun c19 => ?_)
                    · replace h := ifn c19 h
                      refine V_sub C [] rfl ?_
                      exact v_X7_joined_211 C X h
                    · replace h := ifp c19 h
                      refine V_iload_n C 2 dX7_joined_207 rfl rfl ?_
                      refine V_if_eq C dX7_joined_208 rfl (fun c20 => ?_) (fun c20 => ?_)
                      · replace h := ifp c20 h
                        refine V_iconst C dX7_joined_215 kc_i_0 ?_
                        exact V_iret C X dX7_joined_216 ⟨rip_1 h, rfl⟩
                      · replace h := ifn c20 h
                        refine V_sub C [] rfl ?_
                        exact v_X7_joined_211 C X h
theorem c_X7_joined {ε : eT} {S : St} {v0 : Int32} {v1 : Int32} {v2 : Int32} {res : Int32} (h : f_X7_joined S v0 v1 v2 = some res) : CI ε yX7_joined cX7_joined 3 (some .int) 1 [.int v0, .int v1, .int v2] S (some (.int res)) S := CI_of (by decide) (Nat.le_of_ble_eq_true rfl) rfl (fun κ C X => v_X7_joined_e C X h)
def f_X7_workSign_27 (S : St) (s0 : Int32) (s1 : Nat) : Option St :=
 bnd (f_X5_add S s1 s0) (fun S2 =>
 some S2)
set_option maxRecDepth 20000 in
theorem v_X7_workSign_27 {ε : eT} {κ : kT} (C : Act ε κ cX7_workSign 3 RX7 2) {S : St} {res : St} (X : RI ε κ none none res) {s0 : Int32} {s1 : Nat} (hs1 : sh s1 = 5) (h : f_X7_workSign_27 S s0 s1 = some res) : V ε κ 3 27 [] [.int s0, .ref (eA ε s1)] (wsOf ε S) 0 0 := by
  unfold f_X7_workSign_27 at h
  obtain ⟨S2, e1, h⟩ := bnd_s h
  refine W_callvn C cf_X5_add (c_X5_add hs1 e1) q_ML_X7_45 (ws_X5 hs1) rfl dX7_workSign_27 (by decide) rfl rfl (Nat.le_of_ble_eq_true rfl) ?_
  refine V_goto C dX7_workSign_30 rfl ?_
  exact V_vret C X dX7_workSign_52 ⟨rfl, rv_2 h⟩
def f_X7_workSign (S : St) (v0 : Nat) (v1 : Int32) : Option St :=
 bnd2 (f_X5_pop S (v0 + 5)) (fun a2 S3 =>
 (if v1 = (33 : Int32) then
 (if a2 = 0 then
 f_X7_workSign_27 S3 (1 : Int32) (v0 + 5)
 else
 f_X7_workSign_27 S3 (0 : Int32) (v0 + 5))
 else
 bnd2 (f_X5_pop S3 (v0 + 5)) (fun a6 S7 =>
 bnd (f_X7_joined S7 v1 a6 a2) (fun a9 =>
 bnd (f_X5_add S7 (v0 + 5) a9) (fun S11 =>
 some S11)))))
set_option maxRecDepth 20000 in
theorem v_X7_workSign_e {ε : eT} {κ : kT} (C : Act ε κ cX7_workSign 3 RX7 2) {S : St} {res : St} (X : RI ε κ none none res) {v0 : Nat} {v1 : Int32} (h0 : sh v0 = 7) (h : f_X7_workSign S v0 v1 = some res) : V ε κ 3 0 [(0, .ref (eA ε v0)), (1, .int v1)] [] (wsOf ε S) 0 0 := by
  unfold f_X7_workSign at h
  refine V_aload_n C 0 dX7_workSign_0 rfl rfl ?_
  refine G_X7_stack (q := v0) C h0 q_FL_X7_26 dX7_workSign_1 ?_
  obtain ⟨a2, S3, e1, h⟩ := bnd2_s h
  refine W_callvi C cf_X5_pop (c_X5_pop (so_7_5 h0) e1) q_ML_X7_54 (ws_X5 (so_7_5 h0)) rfl dX7_workSign_4 (by decide) rfl rfl (Nat.le_of_ble_eq_true rfl) ?_
  refine V_istore_n (lv' := [(2, .int a2), (0, .ref (eA ε v0)), (1, .int v1)]) C dX7_workSign_7 rfl (by decide) rfl ?_
  refine V_iload_n C 2 dX7_workSign_8 rfl rfl ?_
  refine V_bipush C dX7_workSign_9 kc_b_33 ?_
  refine V_icmp_ne C dX7_workSign_11 rfl (fun c4 => ?_) (fun c4 => ?_)
  · replace h := ifn c4 h
    refine V_aload_n C 1 dX7_workSign_33 rfl rfl ?_
    refine G_X7_stack (q := v0) C h0 q_FL_X7_26 dX7_workSign_34 ?_
    refine V_iload_n C 2 dX7_workSign_37 rfl rfl ?_
    refine V_aload_n C 1 dX7_workSign_38 rfl rfl ?_
    refine G_X7_stack (q := v0) C h0 q_FL_X7_26 dX7_workSign_39 ?_
    obtain ⟨a6, S7, e5, h⟩ := bnd2_s h
    refine W_callvi C cf_X5_pop (c_X5_pop (so_7_5 h0) e5) q_ML_X7_54 (ws_X5 (so_7_5 h0)) rfl dX7_workSign_42 (by decide) rfl rfl (Nat.le_of_ble_eq_true rfl) ?_
    refine V_iload_n C 0 dX7_workSign_45 rfl rfl ?_
    obtain ⟨a9, e8, h⟩ := bnd_s h
    refine W_callsi C cf_X7_joined (c_X7_joined e8) q_ML_X7_57 dX7_workSign_46 (by decide) rfl rfl (Nat.le_of_ble_eq_true rfl) ?_
    obtain ⟨S11, e10, h⟩ := bnd_s h
    refine W_callvn C cf_X5_add (c_X5_add (so_7_5 h0) e10) q_ML_X7_45 (ws_X5 (so_7_5 h0)) rfl dX7_workSign_49 (by decide) rfl rfl (Nat.le_of_ble_eq_true rfl) ?_
    exact V_vret C X dX7_workSign_52 ⟨rfl, rv_2 h⟩
  · replace h := ifp c4 h
    refine V_aload_n C 1 dX7_workSign_14 rfl rfl ?_
    refine G_X7_stack (q := v0) C h0 q_FL_X7_26 dX7_workSign_15 ?_
    refine V_iload_n C 0 dX7_workSign_18 rfl rfl ?_
    refine V_if_ne C dX7_workSign_19 rfl (fun c12 => ?_) (fun c12 => ?_)
    · replace h := ifn c12 h
      refine V_iconst C dX7_workSign_26 kc_i_0 ?_
      refine V_sub C [] rfl ?_
      exact v_X7_workSign_27 C X (so_7_5 h0) h
    · replace h := ifp c12 h
      refine V_iconst C dX7_workSign_22 kc_i_1 ?_
      refine V_goto C dX7_workSign_23 rfl ?_
      refine V_sub C [] rfl ?_
      exact v_X7_workSign_27 C X (so_7_5 h0) h
theorem c_X7_workSign {ε : eT} {S : St} {v0 : Nat} {v1 : Int32} {res : St} (h0 : sh v0 = 7) (h : f_X7_workSign S v0 v1 = some res) : CI ε yX7_workSign cX7_workSign 3 none 2 [.ref (eA ε v0), .int v1] S none res := CI_of (by decide) (Nat.le_of_ble_eq_true rfl) rfl (fun κ C X => v_X7_workSign_e C X h0 h)
def f_X5_last (S : St) (v0 : Nat) : Option Int32 :=
 bnd (f_X5_at S v0 ((S.1 v0 1) - (1 : Int32))) (fun a2 =>
 some a2)
set_option maxRecDepth 20000 in
theorem v_X5_last_e {ε : eT} {κ : kT} (C : Act ε κ cX5_last 1 RX5 2) {S : St} {res : Int32} (X : RI ε κ (some .int) (some (.int res)) S) {v0 : Nat} (h0 : sh v0 = 5) (h : f_X5_last S v0 = some res) : V ε κ 1 0 [(0, .ref (eA ε v0))] [] (wsOf ε S) 0 0 := by
  unfold f_X5_last at h
  refine V_aload_n C 0 dX5_last_0 rfl rfl ?_
  refine V_aload_n C 0 dX5_last_1 rfl rfl ?_
  refine G_X5_size (q := v0) C h0 q_FL_X5_19 dX5_last_2 ?_
  refine V_iconst C dX5_last_5 kc_i_1 ?_
  refine V_isub C dX5_last_6 ?_
  obtain ⟨a2, e1, h⟩ := bnd_s h
  refine W_callvi C cf_X5_at (c_X5_at h0 e1) q_ML_X5_23 (ws_X5 h0) rfl dX5_last_7 (by decide) rfl rfl (Nat.le_of_ble_eq_true rfl) ?_
  exact V_iret C X dX5_last_10 ⟨rip_1 h, rfl⟩
theorem c_X5_last {ε : eT} {S : St} {v0 : Nat} {res : Int32} (h0 : sh v0 = 5) (h : f_X5_last S v0 = some res) : CI ε yX5_last cX5_last 1 (some .int) 2 [.ref (eA ε v0)] S (some (.int res)) S := CI_of (by decide) (Nat.le_of_ble_eq_true rfl) rfl (fun κ C X => v_X5_last_e C X h0 h)
def f_X7_work_86 (N : Nat) (K10 : St → Nat → Int32 → Option (Int32 × St)) (S : St) (v0 : Nat) (v1 : Int32) : Option (Int32 × St) :=
 K10 S v0 (v1 + 1)
set_option maxRecDepth 20000 in
theorem v_X7_work_86 {ε : eT} {κ : kT} {N : Nat} (C : Act ε κ cX7_work 3 RX7 3) {S : St} {res : (Int32 × St)} (X : RI ε κ (some .int) (some (.int res.1)) res.2) {K10 : St → Nat → Int32 → Option (Int32 × St)} (hK10 : ∀ (S : St) (v0 : Nat) (v1 : Int32) (_ : sh v0 = 7), K10 S v0 v1 = some res → V ε κ 3 10 [(0, .ref (eA ε v0)), (1, .int v1)] [] (wsOf ε S) 0 0) {v0 : Nat} {v1 : Int32} (h0 : sh v0 = 7) (h : f_X7_work_86 N K10 S v0 v1 = some res) : V ε κ 3 86 [(0, .ref (eA ε v0)), (1, .int v1)] [] (wsOf ε S) 0 0 := by
  unfold f_X7_work_86 at h
  refine V_iinc (v := (v1 + 1)) (lv' := [(1, .int (v1 + 1)), (0, .ref (eA ε v0))]) C 1 dX7_work_86 rfl (congrArg _ kc_i_1) (by decide) rfl ?_
  refine V_goto C dX7_work_89 rfl ?_
  refine V_sub C [1, 0] rfl ?_
  exact hK10 _ _ _ h0 h
def f_X7_work_10 (N : Nat) : Nat → St → Nat → Int32 → Option (Int32 × St)
  | 0, _, _, _ => none
  | n + 1, S, v0, v1 =>
    bnd (f_X5_size S (v0 + 1)) (fun a2 =>
     (if a2 ≤ v1 then
     bnd (f_X5_last S (v0 + 5)) (fun a5 =>
     some (a5, S))
     else
     bnd (f_X5_at S (v0 + 1) v1) (fun a7 =>
     (if (10000 : Int32) ≤ a7 then
     (if (20000 : Int32) ≤ a7 then
     bnd (f_X7_workSign S v0 (a7 - (20000 : Int32))) (fun S11 =>
     f_X7_work_86 N (f_X7_work_10 N n) S11 v0 v1)
     else
     bnd (f_X5_at S (v0 + 3) (a7 - (10000 : Int32))) (fun a13 =>
     bnd (f_X5_add S (v0 + 5) a13) (fun S15 =>
     f_X7_work_86 N (f_X7_work_10 N n) S15 v0 v1)))
     else
     bnd (f_X5_add S (v0 + 5) a7) (fun S17 =>
     f_X7_work_86 N (f_X7_work_10 N n) S17 v0 v1)))))
set_option maxRecDepth 20000 in
theorem v_X7_work_10 {ε : eT} {κ : kT} {N : Nat} (C : Act ε κ cX7_work 3 RX7 3) {res : (Int32 × St)} (X : RI ε κ (some .int) (some (.int res.1)) res.2) : ∀ (n : Nat) (S : St) (v0 : Nat) (v1 : Int32) (h0 : sh v0 = 7) (h : f_X7_work_10 N n S v0 v1 = some res), V ε κ 3 10 [(0, .ref (eA ε v0)), (1, .int v1)] [] (wsOf ε S) 0 0 := by
  intro n
  induction n with
  | zero => intro S v0 v1 h0 h; cases h
  | succ n ih =>
    intro S v0 v1 h0 h
    rw [f_X7_work_10] at h
    refine V_iload_n C 1 dX7_work_10 rfl rfl ?_
    refine V_aload_n C 0 dX7_work_11 rfl rfl ?_
    refine G_X7_code (q := v0) C h0 q_FL_X7_14 dX7_work_12 ?_
    obtain ⟨a2, e1, h⟩ := bnd_s h
    refine W_callvi C cf_X5_size (c_X5_size (so_7_1 h0) e1) q_ML_X7_29 (ws_X5 (so_7_1 h0)) rfl dX7_work_15 (by decide) rfl rfl (Nat.le_of_ble_eq_true rfl) ?_
    refine V_icmp_ge C dX7_work_18 rfl (fun c3 => ?_) (fun c3 => ?_)
    · replace h := ifp c3 h
      refine V_aload_n C 0 dX7_work_92 rfl rfl ?_
      refine G_X7_stack (q := v0) C h0 q_FL_X7_26 dX7_work_93 ?_
      obtain ⟨a5, e4, h⟩ := bnd_s h
      refine W_callvi C cf_X5_last (c_X5_last (so_7_5 h0) e4) q_ML_X7_51 (ws_X5 (so_7_5 h0)) rfl dX7_work_96 (by decide) rfl rfl (Nat.le_of_ble_eq_true rfl) ?_
      exact V_iret C X dX7_work_99 ⟨ri_1 h, ri_2 h⟩
    · replace h := ifn c3 h
      refine V_aload_n C 0 dX7_work_21 rfl rfl ?_
      refine G_X7_code (q := v0) C h0 q_FL_X7_14 dX7_work_22 ?_
      refine V_iload_n C 1 dX7_work_25 rfl rfl ?_
      obtain ⟨a7, e6, h⟩ := bnd_s h
      refine W_callvi C cf_X5_at (c_X5_at (so_7_1 h0) e6) q_ML_X7_41 (ws_X5 (so_7_1 h0)) rfl dX7_work_26 (by decide) rfl rfl (Nat.le_of_ble_eq_true rfl) ?_
      refine V_istore_n (lv' := [(2, .int a7), (0, .ref (eA ε v0)), (1, .int v1)]) C dX7_work_29 rfl (by decide) rfl ?_
      refine V_iload_n C 0 dX7_work_30 rfl rfl ?_
      refine V_sipush C dX7_work_31 kc_s_10000 ?_
      refine V_icmp_ge C dX7_work_34 rfl (fun c8 => ?_) (fun c8 => ?_)
      · replace h := ifp c8 h
        refine V_iload_n C 0 dX7_work_48 rfl rfl ?_
        refine V_sipush C dX7_work_49 kc_s_20000 ?_
        refine V_icmp_ge C dX7_work_52 rfl (fun c9 => ?_) (fun c9 => ?_)
        · replace h := ifp c9 h
          refine V_aload_n C 1 dX7_work_77 rfl rfl ?_
          refine V_iload_n C 0 dX7_work_78 rfl rfl ?_
          refine V_sipush C dX7_work_79 kc_s_20000 ?_
          refine V_isub C dX7_work_82 ?_
          obtain ⟨S11, e10, h⟩ := bnd_s h
          refine W_callvn C cf_X7_workSign (c_X7_workSign h0 e10) q_ML_X7_48 (ws_X7 h0) rfl dX7_work_83 (by decide) rfl rfl (Nat.le_of_ble_eq_true rfl) ?_
          refine V_sub C [1, 2] rfl ?_
          exact v_X7_work_86 C X ih h0 h
        · replace h := ifn c9 h
          refine V_aload_n C 1 dX7_work_55 rfl rfl ?_
          refine G_X7_stack (q := v0) C h0 q_FL_X7_26 dX7_work_56 ?_
          refine V_aload_n C 1 dX7_work_59 rfl rfl ?_
          refine G_X7_names (q := v0) C h0 q_FL_X7_20 dX7_work_60 ?_
          refine V_iload_n C 0 dX7_work_63 rfl rfl ?_
          refine V_sipush C dX7_work_64 kc_s_10000 ?_
          refine V_isub C dX7_work_67 ?_
          obtain ⟨a13, e12, h⟩ := bnd_s h
          refine W_callvi C cf_X5_at (c_X5_at (so_7_3 h0) e12) q_ML_X7_41 (ws_X5 (so_7_3 h0)) rfl dX7_work_68 (by decide) rfl rfl (Nat.le_of_ble_eq_true rfl) ?_
          obtain ⟨S15, e14, h⟩ := bnd_s h
          refine W_callvn C cf_X5_add (c_X5_add (so_7_5 h0) e14) q_ML_X7_45 (ws_X5 (so_7_5 h0)) rfl dX7_work_71 (by decide) rfl rfl (Nat.le_of_ble_eq_true rfl) ?_
          refine V_goto C dX7_work_74 rfl ?_
          refine V_sub C [1, 2] rfl ?_
          exact v_X7_work_86 C X ih h0 h
      · replace h := ifn c8 h
        refine V_aload_n C 1 dX7_work_37 rfl rfl ?_
        refine G_X7_stack (q := v0) C h0 q_FL_X7_26 dX7_work_38 ?_
        refine V_iload_n C 0 dX7_work_41 rfl rfl ?_
        obtain ⟨S17, e16, h⟩ := bnd_s h
        refine W_callvn C cf_X5_add (c_X5_add (so_7_5 h0) e16) q_ML_X7_45 (ws_X5 (so_7_5 h0)) rfl dX7_work_42 (by decide) rfl rfl (Nat.le_of_ble_eq_true rfl) ?_
        refine V_goto C dX7_work_45 rfl ?_
        refine V_sub C [1, 2] rfl ?_
        exact v_X7_work_86 C X ih h0 h
def f_X7_work (N : Nat) (S : St) (v0 : Nat) : Option (Int32 × St) :=
 bnd (f_X5_reset N S (v0 + 5) (0 : Int32)) (fun S2 =>
 f_X7_work_10 N N S2 v0 (0 : Int32))
set_option maxRecDepth 20000 in
theorem v_X7_work_e {ε : eT} {κ : kT} {N : Nat} (C : Act ε κ cX7_work 3 RX7 3) {S : St} {res : (Int32 × St)} (X : RI ε κ (some .int) (some (.int res.1)) res.2) {v0 : Nat} (h0 : sh v0 = 7) (h : f_X7_work N S v0 = some res) : V ε κ 3 0 [(0, .ref (eA ε v0))] [] (wsOf ε S) 0 0 := by
  unfold f_X7_work at h
  refine V_aload_n C 0 dX7_work_0 rfl rfl ?_
  refine G_X7_stack (q := v0) C h0 q_FL_X7_26 dX7_work_1 ?_
  refine V_iconst C dX7_work_4 kc_i_0 ?_
  obtain ⟨S2, e1, h⟩ := bnd_s h
  refine W_callvn C cf_X5_reset (c_X5_reset (so_7_5 h0) e1) q_ML_X7_23 (ws_X5 (so_7_5 h0)) rfl dX7_work_5 (by decide) rfl rfl (Nat.le_of_ble_eq_true rfl) ?_
  refine V_iconst C dX7_work_8 kc_i_0 ?_
  refine V_istore_n (lv' := [(1, .int (0 : Int32)), (0, .ref (eA ε v0))]) C dX7_work_9 rfl (by decide) rfl ?_
  refine V_sub C [1, 0] rfl ?_
  exact v_X7_work_10 C X N _ _ _ h0 h
theorem c_X7_work {ε : eT} {N : Nat} {S : St} {v0 : Nat} {res : (Int32 × St)} (h0 : sh v0 = 7) (h : f_X7_work N S v0 = some res) : CI ε yX7_work cX7_work 3 (some .int) 3 [.ref (eA ε v0)] S (some (.int res.1)) res.2 := CI_of (by decide) (Nat.le_of_ble_eq_true rfl) rfl (fun κ C X => v_X7_work_e C X h0 h)
def f_X9_nameByText (N : Nat) (S : St) (v0 : Nat) (v1 : Int32) (v2 : Int32) : Option (Int32 × St) :=
 bnd (f_X7_setName S (v0 + 29) (0 : Int32) v2) (fun S2 =>
 bnd (f_X9_mostElse N S2 v0 v1) (fun a4 =>
 bnd (f_X7_setName S2 (v0 + 29) (1 : Int32) a4) (fun S6 =>
 bnd (f_X5_at S6 (v0 + 13) v1) (fun a8 =>
 bnd (f_X7_setName S6 (v0 + 29) (2 : Int32) a8) (fun S10 =>
 bnd (f_X5_at S10 (v0 + 27) (0 : Int32)) (fun a12 =>
 bnd (f_X7_setName S10 (v0 + 29) (3 : Int32) a12) (fun S14 =>
 bnd (f_X7_setName S14 (v0 + 29) (4 : Int32) (S14.1 v0 11)) (fun S16 =>
 bnd2 (f_X7_work N S16 (v0 + 29)) (fun a18 S19 =>
 some ((if (0 : Int32) < (if (9999 : Int32) < a18 then (9999 : Int32) else a18) then (if (9999 : Int32) < a18 then (9999 : Int32) else a18) else (0 : Int32)), S19))))))))))
set_option maxRecDepth 20000 in
theorem v_X9_nameByText_e {ε : eT} {κ : kT} {N : Nat} (C : Act ε κ cX9_nameByText 3 RX9 4) {S : St} {res : (Int32 × St)} (X : RI ε κ (some .int) (some (.int res.1)) res.2) {v0 : Nat} {v1 : Int32} {v2 : Int32} (h0 : sh v0 = 9) (h : f_X9_nameByText N S v0 v1 v2 = some res) : V ε κ 3 0 [(0, .ref (eA ε v0)), (1, .int v1), (2, .int v2)] [] (wsOf ε S) 0 0 := by
  unfold f_X9_nameByText at h
  refine V_aload_n C 0 dX9_nameByText_0 rfl rfl ?_
  refine G_X9_naming (q := v0) C h0 q_FL_X9_53 dX9_nameByText_1 ?_
  refine V_iconst C dX9_nameByText_4 kc_i_0 ?_
  refine V_iload_n C 2 dX9_nameByText_5 rfl rfl ?_
  obtain ⟨S2, e1, h⟩ := bnd_s h
  refine W_callvn C cf_X7_setName (c_X7_setName (so_9_29 h0) e1) q_ML_X9_154 (ws_X7 (so_9_29 h0)) rfl dX9_nameByText_6 (by decide) rfl rfl (Nat.le_of_ble_eq_true rfl) ?_
  refine V_aload_n C 0 dX9_nameByText_9 rfl rfl ?_
  refine G_X9_naming (q := v0) C h0 q_FL_X9_53 dX9_nameByText_10 ?_
  refine V_iconst C dX9_nameByText_13 kc_i_1 ?_
  refine V_aload_n C 0 dX9_nameByText_14 rfl rfl ?_
  refine V_iload_n C 1 dX9_nameByText_15 rfl rfl ?_
  obtain ⟨a4, e3, h⟩ := bnd_s h
  refine W_callvi C cf_X9_mostElse (c_X9_mostElse h0 e3) q_ML_X9_135 (ws_X9 h0) rfl dX9_nameByText_16 (by decide) rfl rfl (Nat.le_of_ble_eq_true rfl) ?_
  obtain ⟨S6, e5, h⟩ := bnd_s h
  refine W_callvn C cf_X7_setName (c_X7_setName (so_9_29 h0) e5) q_ML_X9_154 (ws_X7 (so_9_29 h0)) rfl dX9_nameByText_19 (by decide) rfl rfl (Nat.le_of_ble_eq_true rfl) ?_
  refine V_aload_n C 0 dX9_nameByText_22 rfl rfl ?_
  refine G_X9_naming (q := v0) C h0 q_FL_X9_53 dX9_nameByText_23 ?_
  refine V_iconst C dX9_nameByText_26 kc_i_2 ?_
  refine V_aload_n C 0 dX9_nameByText_27 rfl rfl ?_
  refine G_X9_things (q := v0) C h0 q_FL_X9_21 dX9_nameByText_28 ?_
  refine G_X8_prices (q := (v0 + 10)) C (so_9_10 h0) q_FL_X9_129 dX9_nameByText_31 ?_
  refine V_iload_n C 1 dX9_nameByText_34 rfl rfl ?_
  obtain ⟨a8, e7, h⟩ := bnd_s h
  refine W_callvi C cf_X5_at (c_X5_at (so_9_13 h0) e7) q_ML_X9_106 (ws_X5 (so_9_13 h0)) rfl dX9_nameByText_35 (by decide) rfl rfl (Nat.le_of_ble_eq_true rfl) ?_
  obtain ⟨S10, e9, h⟩ := bnd_s h
  refine W_callvn C cf_X7_setName (c_X7_setName (so_9_29 h0) e9) q_ML_X9_154 (ws_X7 (so_9_29 h0)) rfl dX9_nameByText_38 (by decide) rfl rfl (Nat.le_of_ble_eq_true rfl) ?_
  refine V_aload_n C 0 dX9_nameByText_41 rfl rfl ?_
  refine G_X9_naming (q := v0) C h0 q_FL_X9_53 dX9_nameByText_42 ?_
  refine V_iconst C dX9_nameByText_45 kc_i_3 ?_
  refine V_aload_n C 0 dX9_nameByText_46 rfl rfl ?_
  refine G_X9_rules (q := v0) C h0 q_FL_X9_40 dX9_nameByText_47 ?_
  refine V_iconst C dX9_nameByText_50 kc_i_0 ?_
  obtain ⟨a12, e11, h⟩ := bnd_s h
  refine W_callvi C cf_X5_at (c_X5_at (so_9_27 h0) e11) q_ML_X9_106 (ws_X5 (so_9_27 h0)) rfl dX9_nameByText_51 (by decide) rfl rfl (Nat.le_of_ble_eq_true rfl) ?_
  obtain ⟨S14, e13, h⟩ := bnd_s h
  refine W_callvn C cf_X7_setName (c_X7_setName (so_9_29 h0) e13) q_ML_X9_154 (ws_X7 (so_9_29 h0)) rfl dX9_nameByText_54 (by decide) rfl rfl (Nat.le_of_ble_eq_true rfl) ?_
  refine V_aload_n C 0 dX9_nameByText_57 rfl rfl ?_
  refine G_X9_naming (q := v0) C h0 q_FL_X9_53 dX9_nameByText_58 ?_
  refine V_iconst C dX9_nameByText_61 kc_i_4 ?_
  refine V_aload_n C 0 dX9_nameByText_62 rfl rfl ?_
  refine G_X9_years (q := v0) C h0 q_FL_X9_90 dX9_nameByText_63 ?_
  obtain ⟨S16, e15, h⟩ := bnd_s h
  refine W_callvn C cf_X7_setName (c_X7_setName (so_9_29 h0) e15) q_ML_X9_154 (ws_X7 (so_9_29 h0)) rfl dX9_nameByText_66 (by decide) rfl rfl (Nat.le_of_ble_eq_true rfl) ?_
  refine V_iconst C dX9_nameByText_69 kc_i_0 ?_
  refine V_aload_n C 0 dX9_nameByText_70 rfl rfl ?_
  refine G_X9_naming (q := v0) C h0 q_FL_X9_53 dX9_nameByText_71 ?_
  obtain ⟨a18, S19, e17, h⟩ := bnd2_s h
  refine W_callvi C cf_X7_work (c_X7_work (so_9_29 h0) e17) q_ML_X9_157 (ws_X7 (so_9_29 h0)) rfl dX9_nameByText_74 (by decide) rfl rfl (Nat.le_of_ble_eq_true rfl) ?_
  refine V_sipush C dX9_nameByText_77 kc_s_9999 ?_
  refine V_mmin C q_ML_X9_132 (by decide) (Nat.le_of_ble_eq_true rfl) ⟨Nat.zero_le _, Nat.zero_le _⟩ dX9_nameByText_80 ?_
  refine V_mmax C q_ML_X9_121 (by decide) (Nat.le_of_ble_eq_true rfl) ⟨Nat.zero_le _, Nat.zero_le _⟩ dX9_nameByText_83 ?_
  exact V_iret C X dX9_nameByText_86 ⟨ri_1 h, ri_2 h⟩
theorem c_X9_nameByText {ε : eT} {N : Nat} {S : St} {v0 : Nat} {v1 : Int32} {v2 : Int32} {res : (Int32 × St)} (h0 : sh v0 = 9) (h : f_X9_nameByText N S v0 v1 v2 = some res) : CI ε yX9_nameByText cX9_nameByText 3 (some .int) 4 [.ref (eA ε v0), .int v1, .int v2] S (some (.int res.1)) res.2 := CI_of (by decide) (Nat.le_of_ble_eq_true rfl) rfl (fun κ C X => v_X9_nameByText_e C X h0 h)
def f_X2_look_149 (N : Nat) (K57 : St → Nat → Int32 → Int32 → Int32 → Option St) (S : St) (v1 : Nat) (v2 : Int32) (v3 : Int32) (v4 : Int32) : Option St :=
 K57 S v1 v2 v3 (v4 + 1)
set_option maxRecDepth 20000 in
theorem v_X2_look_149 {ε : eT} {κ : kT} {N : Nat} (C : Act ε κ cX2_look 6 RX2 3) {S : St} {res : St} (X : RI ε κ none none res) {K57 : St → Nat → Int32 → Int32 → Int32 → Option St} (hK57 : ∀ (S : St) (v1 : Nat) (v2 : Int32) (v3 : Int32) (v4 : Int32) (_ : sh v1 = 9), K57 S v1 v2 v3 v4 = some res → V ε κ 6 57 [(0, .ref (eA ε 1)), (1, .ref (eA ε v1)), (2, .int v2), (3, .int v3), (4, .int v4)] [] (wsOf ε S) 0 0) {v1 : Nat} {v2 : Int32} {v3 : Int32} {v4 : Int32} (h1 : sh v1 = 9) (h : f_X2_look_149 N K57 S v1 v2 v3 v4 = some res) : V ε κ 6 149 [(0, .ref (eA ε 1)), (1, .ref (eA ε v1)), (2, .int v2), (3, .int v3), (4, .int v4)] [] (wsOf ε S) 0 0 := by
  unfold f_X2_look_149 at h
  refine V_iinc (v := (v4 + 1)) (lv' := [(4, .int (v4 + 1)), (0, .ref (eA ε 1)), (1, .ref (eA ε v1)), (2, .int v2), (3, .int v3)]) C 4 dX2_look_149 rfl (congrArg _ kc_i_1) (by decide) rfl ?_
  refine V_goto C dX2_look_152 rfl ?_
  refine V_sub C [1, 2, 3, 4, 0] rfl ?_
  exact hK57 _ _ _ _ _ h1 h
def f_X2_look_57 (N : Nat) : Nat → St → Nat → Int32 → Int32 → Int32 → Option St
  | 0, _, _, _, _, _ => none
  | n + 1, S, v1, v2, v3, v4 =>
    bnd (f_X3_size S (v1 + 1)) (fun a2 =>
     (if a2 ≤ v4 then
     some S
     else
     (if v4 = v3 then
     f_X2_look_149 N (f_X2_look_57 N n) S v1 v2 v3 v4
     else
     bnd (f_X5_at S (v1 + 8) v4) (fun a6 =>
     bnd (f_X8_valueOf S (v1 + 10) v4 v2) (fun a8 =>
     bnd (f_X5_add S 2 a8) (fun S10 =>
     bnd (f_X5_at S10 (v1 + 6) v4) (fun a12 =>
     bnd (f_X5_add S10 4 (a6 - a12)) (fun S14 =>
     bnd (f_X5_add S14 6 a6) (fun S16 =>
     f_X2_look_149 N (f_X2_look_57 N n) (pq S16 1 ((S16.2 1) * (a6).toInt64)) v1 v2 v3 v4)))))))))
set_option maxRecDepth 20000 in
theorem v_X2_look_57 {ε : eT} {κ : kT} {N : Nat} (C : Act ε κ cX2_look 6 RX2 3) {res : St} (X : RI ε κ none none res) : ∀ (n : Nat) (S : St) (v1 : Nat) (v2 : Int32) (v3 : Int32) (v4 : Int32) (h1 : sh v1 = 9) (h : f_X2_look_57 N n S v1 v2 v3 v4 = some res), V ε κ 6 57 [(0, .ref (eA ε 1)), (1, .ref (eA ε v1)), (2, .int v2), (3, .int v3), (4, .int v4)] [] (wsOf ε S) 0 0 := by
  intro n
  induction n with
  | zero => intro S v1 v2 v3 v4 h1 h; cases h
  | succ n ih =>
    intro S v1 v2 v3 v4 h1 h
    rw [f_X2_look_57] at h
    refine V_iload C 4 dX2_look_57 rfl ?_
    refine V_aload_n C 1 dX2_look_59 rfl rfl ?_
    refine G_X9_people (q := v1) C h1 q_FL_X2_56 dX2_look_60 ?_
    obtain ⟨a2, e1, h⟩ := bnd_s h
    refine W_callvi C cf_X3_size (c_X3_size (so_9_1 h1) e1) q_ML_X2_60 (ws_X3 (so_9_1 h1)) rfl dX2_look_63 (by decide) rfl rfl (Nat.le_of_ble_eq_true rfl) ?_
    refine V_icmp_ge C dX2_look_66 rfl (fun c3 => ?_) (fun c3 => ?_)
    · replace h := ifp c3 h
      exact V_vret C X dX2_look_155 ⟨rfl, rv_2 h⟩
    · replace h := ifn c3 h
      refine V_iload C 4 dX2_look_69 rfl ?_
      refine V_iload_n C 3 dX2_look_71 rfl rfl ?_
      refine V_icmp_eq C dX2_look_72 rfl (fun c4 => ?_) (fun c4 => ?_)
      · replace h := ifp c4 h
        exact v_X2_look_149 C X ih h1 h
      · replace h := ifn c4 h
        refine V_aload_n C 1 dX2_look_75 rfl rfl ?_
        refine G_X9_people (q := v1) C h1 q_FL_X2_56 dX2_look_76 ?_
        refine G_X3_outOf (q := (v1 + 1)) C (so_9_1 h1) q_FL_X2_66 dX2_look_79 ?_
        refine V_iload C 4 dX2_look_82 rfl ?_
        obtain ⟨a6, e5, h⟩ := bnd_s h
        refine W_callvi C cf_X5_at (c_X5_at (so_9_8 h1) e5) q_ML_X2_37 (ws_X5 (so_9_8 h1)) rfl dX2_look_84 (by decide) rfl rfl (Nat.le_of_ble_eq_true rfl) ?_
        refine V_istore (lv' := [(5, .int a6), (0, .ref (eA ε 1)), (1, .ref (eA ε v1)), (2, .int v2), (3, .int v3), (4, .int v4)]) C dX2_look_87 (by decide) rfl ?_
        refine V_aload_n C 1 dX2_look_89 rfl rfl ?_
        refine G_X2_values (q := 1) C sk_1 q_FL_X2_14 dX2_look_90 ?_
        refine V_aload_n C 2 dX2_look_93 rfl rfl ?_
        refine G_X9_things (q := v1) C h1 q_FL_X2_26 dX2_look_94 ?_
        refine V_iload C 5 dX2_look_97 rfl ?_
        refine V_iload_n C 3 dX2_look_99 rfl rfl ?_
        obtain ⟨a8, e7, h⟩ := bnd_s h
        refine W_callvi C cf_X8_valueOf (c_X8_valueOf (so_9_10 h1) e7) q_ML_X2_41 (ws_X8 (so_9_10 h1)) rfl dX2_look_100 (by decide) rfl rfl (Nat.le_of_ble_eq_true rfl) ?_
        obtain ⟨S10, e9, h⟩ := bnd_s h
        refine W_callvn C cf_X5_add (c_X5_add sk_2 e9) q_ML_X2_67 (ws_X5 sk_2) rfl dX2_look_103 (by decide) rfl rfl (Nat.le_of_ble_eq_true rfl) ?_
        refine V_aload_n C 1 dX2_look_106 rfl rfl ?_
        refine G_X2_misses (q := 1) C sk_1 q_FL_X2_20 dX2_look_107 ?_
        refine V_iload C 0 dX2_look_110 rfl ?_
        refine V_aload_n C 2 dX2_look_112 rfl rfl ?_
        refine G_X9_people (q := v1) C h1 q_FL_X2_56 dX2_look_113 ?_
        refine G_X3_chances (q := (v1 + 1)) C (so_9_1 h1) q_FL_X2_70 dX2_look_116 ?_
        refine V_iload C 5 dX2_look_119 rfl ?_
        obtain ⟨a12, e11, h⟩ := bnd_s h
        refine W_callvi C cf_X5_at (c_X5_at (so_9_6 h1) e11) q_ML_X2_37 (ws_X5 (so_9_6 h1)) rfl dX2_look_121 (by decide) rfl rfl (Nat.le_of_ble_eq_true rfl) ?_
        refine V_isub C dX2_look_124 ?_
        obtain ⟨S14, e13, h⟩ := bnd_s h
        refine W_callvn C cf_X5_add (c_X5_add sk_4 e13) q_ML_X2_67 (ws_X5 sk_4) rfl dX2_look_125 (by decide) rfl rfl (Nat.le_of_ble_eq_true rfl) ?_
        refine V_aload_n C 1 dX2_look_128 rfl rfl ?_
        refine G_X2_outOf (q := 1) C sk_1 q_FL_X2_23 dX2_look_129 ?_
        refine V_iload C 0 dX2_look_132 rfl ?_
        obtain ⟨S16, e15, h⟩ := bnd_s h
        refine W_callvn C cf_X5_add (c_X5_add sk_6 e15) q_ML_X2_67 (ws_X5 sk_6) rfl dX2_look_134 (by decide) rfl rfl (Nat.le_of_ble_eq_true rfl) ?_
        refine V_aload_n C 1 dX2_look_137 rfl rfl ?_
        refine V_dup C dX2_look_138 rfl ?_
        refine G_X2_whole (q := 1) C sk_1 q_FL_X2_49 dX2_look_139 ?_
        refine V_iload C 0 dX2_look_142 rfl ?_
        refine V_i2l C dX2_look_144 ?_
        refine V_lmul C dX2_look_145 ?_
        refine P_X2_whole (q := 1) C sk_1 q_FL_X2_49 dX2_look_146 ?_
        refine V_sub C [1, 2, 3, 4, 5] rfl ?_
        exact v_X2_look_149 C X ih h1 h
def f_X2_look (N : Nat) (S : St) (v1 : Nat) (v2 : Int32) : Option St :=
 bnd (f_X5_at S (v1 + 11) v2) (fun a2 =>
 bnd (f_X8_valueOf S (v1 + 10) a2 v2) (fun a4 =>
 bnd (f_X5_reset N (pq (pt S 1 4 a4) 1 (1 : Int64)) 2 (0 : Int32)) (fun S6 =>
 bnd (f_X5_reset N S6 4 (0 : Int32)) (fun S8 =>
 bnd (f_X5_reset N S8 6 (0 : Int32)) (fun S10 =>
 f_X2_look_57 N N S10 v1 v2 a2 (0 : Int32))))))
set_option maxRecDepth 20000 in
theorem v_X2_look_e {ε : eT} {κ : kT} {N : Nat} (C : Act ε κ cX2_look 6 RX2 3) {S : St} {res : St} (X : RI ε κ none none res) {v1 : Nat} {v2 : Int32} (h1 : sh v1 = 9) (h : f_X2_look N S v1 v2 = some res) : V ε κ 6 0 [(0, .ref (eA ε 1)), (1, .ref (eA ε v1)), (2, .int v2)] [] (wsOf ε S) 0 0 := by
  unfold f_X2_look at h
  refine V_aload_n C 1 dX2_look_0 rfl rfl ?_
  refine G_X9_things (q := v1) C h1 q_FL_X2_26 dX2_look_1 ?_
  refine G_X8_owners (q := (v1 + 10)) C (so_9_10 h1) q_FL_X2_32 dX2_look_4 ?_
  refine V_iload_n C 2 dX2_look_7 rfl rfl ?_
  obtain ⟨a2, e1, h⟩ := bnd_s h
  refine W_callvi C cf_X5_at (c_X5_at (so_9_11 h1) e1) q_ML_X2_37 (ws_X5 (so_9_11 h1)) rfl dX2_look_8 (by decide) rfl rfl (Nat.le_of_ble_eq_true rfl) ?_
  refine V_istore_n (lv' := [(3, .int a2), (0, .ref (eA ε 1)), (1, .ref (eA ε v1)), (2, .int v2)]) C dX2_look_11 rfl (by decide) rfl ?_
  refine V_aload_n C 1 dX2_look_12 rfl rfl ?_
  refine V_aload_n C 2 dX2_look_13 rfl rfl ?_
  refine G_X9_things (q := v1) C h1 q_FL_X2_26 dX2_look_14 ?_
  refine V_iload_n C 0 dX2_look_17 rfl rfl ?_
  refine V_iload_n C 3 dX2_look_18 rfl rfl ?_
  obtain ⟨a4, e3, h⟩ := bnd_s h
  refine W_callvi C cf_X8_valueOf (c_X8_valueOf (so_9_10 h1) e3) q_ML_X2_41 (ws_X8 (so_9_10 h1)) rfl dX2_look_19 (by decide) rfl rfl (Nat.le_of_ble_eq_true rfl) ?_
  refine P_X2_own (q := 1) C sk_1 q_FL_X2_45 dX2_look_22 ?_
  refine V_aload_n C 1 dX2_look_25 rfl rfl ?_
  refine V_lconst C dX2_look_26 kc_l_1 ?_
  refine P_X2_whole (q := 1) C sk_1 q_FL_X2_49 dX2_look_27 ?_
  refine V_aload_n C 1 dX2_look_30 rfl rfl ?_
  refine G_X2_values (q := 1) C sk_1 q_FL_X2_14 dX2_look_31 ?_
  refine V_iconst C dX2_look_34 kc_i_0 ?_
  obtain ⟨S6, e5, h⟩ := bnd_s h
  refine W_callvn C cf_X5_reset (c_X5_reset sk_2 e5) q_ML_X2_53 (ws_X5 sk_2) rfl dX2_look_35 (by decide) rfl rfl (Nat.le_of_ble_eq_true rfl) ?_
  refine V_aload_n C 1 dX2_look_38 rfl rfl ?_
  refine G_X2_misses (q := 1) C sk_1 q_FL_X2_20 dX2_look_39 ?_
  refine V_iconst C dX2_look_42 kc_i_0 ?_
  obtain ⟨S8, e7, h⟩ := bnd_s h
  refine W_callvn C cf_X5_reset (c_X5_reset sk_4 e7) q_ML_X2_53 (ws_X5 sk_4) rfl dX2_look_43 (by decide) rfl rfl (Nat.le_of_ble_eq_true rfl) ?_
  refine V_aload_n C 1 dX2_look_46 rfl rfl ?_
  refine G_X2_outOf (q := 1) C sk_1 q_FL_X2_23 dX2_look_47 ?_
  refine V_iconst C dX2_look_50 kc_i_0 ?_
  obtain ⟨S10, e9, h⟩ := bnd_s h
  refine W_callvn C cf_X5_reset (c_X5_reset sk_6 e9) q_ML_X2_53 (ws_X5 sk_6) rfl dX2_look_51 (by decide) rfl rfl (Nat.le_of_ble_eq_true rfl) ?_
  refine V_iconst C dX2_look_54 kc_i_0 ?_
  refine V_istore (lv' := [(4, .int (0 : Int32)), (3, .int a2), (0, .ref (eA ε 1)), (1, .ref (eA ε v1)), (2, .int v2)]) C dX2_look_55 (by decide) rfl ?_
  refine V_sub C [2, 3, 4, 1, 0] rfl ?_
  exact v_X2_look_57 C X N _ _ _ _ _ h1 h
theorem c_X2_look {ε : eT} {N : Nat} {S : St} {v1 : Nat} {v2 : Int32} {res : St} (h1 : sh v1 = 9) (h : f_X2_look N S v1 v2 = some res) : CI ε yX2_look cX2_look 6 none 3 [.ref (eA ε 1), .ref (eA ε v1), .int v2] S none res := CI_of (by decide) (Nat.le_of_ble_eq_true rfl) rfl (fun κ C X => v_X2_look_e C X h1 h)
def f_X2_leftAt_54 (N : Nat) (S : St) (K5 : Int32 → Int64 → Int32 → Option Int64) (v1 : Int32) (v4 : Int32) (s0 : Int64) (s1 : Int64) : Option Int64 :=
 K5 v1 (s1 * s0) (v4 + 1)
set_option maxRecDepth 20000 in
theorem v_X2_leftAt_54 {ε : eT} {κ : kT} {N : Nat} (C : Act ε κ cX2_leftAt 5 RX2 2) {S : St} {res : Int64} (X : RI ε κ (some .long) (some (.long res)) S) {K5 : Int32 → Int64 → Int32 → Option Int64} (hK5 : ∀ (v1 : Int32) (v2 : Int64) (v4 : Int32), K5 v1 v2 v4 = some res → V ε κ 5 5 [(0, .ref (eA ε 1)), (1, .int v1), (2, .long v2), (4, .int v4)] [] (wsOf ε S) 0 0) {v1 : Int32} {v4 : Int32} {s0 : Int64} {s1 : Int64} (h : f_X2_leftAt_54 N S K5 v1 v4 s0 s1 = some res) : V ε κ 5 54 [(0, .ref (eA ε 1)), (1, .int v1), (4, .int v4)] [.long s0, .long s1] (wsOf ε S) 0 0 := by
  unfold f_X2_leftAt_54 at h
  refine V_lmul C dX2_leftAt_54 ?_
  refine V_lstore_n (lv' := [(2, .long (s1 * s0)), (0, .ref (eA ε 1)), (1, .int v1), (4, .int v4)]) C dX2_leftAt_55 rfl (by decide) rfl ?_
  refine V_iinc (v := (v4 + 1)) (lv' := [(4, .int (v4 + 1)), (2, .long (s1 * s0)), (0, .ref (eA ε 1)), (1, .int v1)]) C 3 dX2_leftAt_56 rfl (congrArg _ kc_i_1) (by decide) rfl ?_
  refine V_goto C dX2_leftAt_59 rfl ?_
  refine V_sub C [2, 3, 1, 0] rfl ?_
  exact hK5 _ _ _ h
def f_X2_leftAt_5 (N : Nat) (S : St) : Nat → Int32 → Int64 → Int32 → Option Int64
  | 0, _, _, _ => none
  | n + 1, v1, v2, v4 =>
    bnd (f_X5_size S 2) (fun a2 =>
     (if a2 ≤ v4 then
     some v2
     else
     bnd (f_X5_at S 2 v4) (fun a5 =>
     (if a5 ≤ v1 then
     bnd (f_X5_at S 6 v4) (fun a8 =>
     f_X2_leftAt_54 N S (f_X2_leftAt_5 N S n) v1 v4 ((a8).toInt64) v2)
     else
     bnd (f_X5_at S 4 v4) (fun a10 =>
     f_X2_leftAt_54 N S (f_X2_leftAt_5 N S n) v1 v4 ((a10).toInt64) v2)))))
set_option maxRecDepth 20000 in
theorem v_X2_leftAt_5 {ε : eT} {κ : kT} {N : Nat} (C : Act ε κ cX2_leftAt 5 RX2 2) {S : St} {res : Int64} (X : RI ε κ (some .long) (some (.long res)) S) : ∀ (n : Nat) (v1 : Int32) (v2 : Int64) (v4 : Int32) (h : f_X2_leftAt_5 N S n v1 v2 v4 = some res), V ε κ 5 5 [(0, .ref (eA ε 1)), (1, .int v1), (2, .long v2), (4, .int v4)] [] (wsOf ε S) 0 0 := by
  intro n
  induction n with
  | zero => intro v1 v2 v4 h; cases h
  | succ n ih =>
    intro v1 v2 v4 h
    rw [f_X2_leftAt_5] at h
    refine V_iload C 3 dX2_leftAt_5 rfl ?_
    refine V_aload_n C 0 dX2_leftAt_7 rfl rfl ?_
    refine G_X2_values (q := 1) C sk_1 q_FL_X2_14 dX2_leftAt_8 ?_
    obtain ⟨a2, e1, h⟩ := bnd_s h
    refine W_callvi C cf_X5_size (c_X5_size sk_2 e1) q_ML_X2_73 (ws_X5 sk_2) rfl dX2_leftAt_11 (by decide) rfl rfl (Nat.le_of_ble_eq_true rfl) ?_
    refine V_icmp_ge C dX2_leftAt_14 rfl (fun c3 => ?_) (fun c3 => ?_)
    · replace h := ifp c3 h
      refine V_lload_n C 2 dX2_leftAt_62 rfl rfl ?_
      exact V_lret C X dX2_leftAt_63 ⟨rlp_1 h, rfl⟩
    · replace h := ifn c3 h
      refine V_lload_n C 2 dX2_leftAt_17 rfl rfl ?_
      refine V_aload_n C 0 dX2_leftAt_18 rfl rfl ?_
      refine G_X2_values (q := 1) C sk_1 q_FL_X2_14 dX2_leftAt_19 ?_
      refine V_iload C 3 dX2_leftAt_22 rfl ?_
      obtain ⟨a5, e4, h⟩ := bnd_s h
      refine W_callvi C cf_X5_at (c_X5_at sk_2 e4) q_ML_X2_37 (ws_X5 sk_2) rfl dX2_leftAt_24 (by decide) rfl rfl (Nat.le_of_ble_eq_true rfl) ?_
      refine V_iload_n C 1 dX2_leftAt_27 rfl rfl ?_
      refine V_icmp_le C dX2_leftAt_28 rfl (fun c6 => ?_) (fun c6 => ?_)
      · replace h := ifp c6 h
        refine V_aload_n C 0 dX2_leftAt_44 rfl rfl ?_
        refine G_X2_outOf (q := 1) C sk_1 q_FL_X2_23 dX2_leftAt_45 ?_
        refine V_iload C 3 dX2_leftAt_48 rfl ?_
        obtain ⟨a8, e7, h⟩ := bnd_s h
        refine W_callvi C cf_X5_at (c_X5_at sk_6 e7) q_ML_X2_37 (ws_X5 sk_6) rfl dX2_leftAt_50 (by decide) rfl rfl (Nat.le_of_ble_eq_true rfl) ?_
        refine V_i2l C dX2_leftAt_53 ?_
        refine V_sub C [0, 1, 3] rfl ?_
        exact v_X2_leftAt_54 C X ih h
      · replace h := ifn c6 h
        refine V_aload_n C 0 dX2_leftAt_31 rfl rfl ?_
        refine G_X2_misses (q := 1) C sk_1 q_FL_X2_20 dX2_leftAt_32 ?_
        refine V_iload C 3 dX2_leftAt_35 rfl ?_
        obtain ⟨a10, e9, h⟩ := bnd_s h
        refine W_callvi C cf_X5_at (c_X5_at sk_4 e9) q_ML_X2_37 (ws_X5 sk_4) rfl dX2_leftAt_37 (by decide) rfl rfl (Nat.le_of_ble_eq_true rfl) ?_
        refine V_i2l C dX2_leftAt_40 ?_
        refine V_goto C dX2_leftAt_41 rfl ?_
        refine V_sub C [0, 1, 3] rfl ?_
        exact v_X2_leftAt_54 C X ih h
def f_X2_leftAt (N : Nat) (S : St) (v1 : Int32) : Option Int64 :=
 f_X2_leftAt_5 N S N v1 (1 : Int64) (0 : Int32)
set_option maxRecDepth 20000 in
theorem v_X2_leftAt_e {ε : eT} {κ : kT} {N : Nat} (C : Act ε κ cX2_leftAt 5 RX2 2) {S : St} {res : Int64} (X : RI ε κ (some .long) (some (.long res)) S) {v1 : Int32} (h : f_X2_leftAt N S v1 = some res) : V ε κ 5 0 [(0, .ref (eA ε 1)), (1, .int v1)] [] (wsOf ε S) 0 0 := by
  unfold f_X2_leftAt at h
  refine V_lconst C dX2_leftAt_0 kc_l_1 ?_
  refine V_lstore_n (lv' := [(2, .long (1 : Int64)), (0, .ref (eA ε 1)), (1, .int v1)]) C dX2_leftAt_1 rfl (by decide) rfl ?_
  refine V_iconst C dX2_leftAt_2 kc_i_0 ?_
  refine V_istore (lv' := [(4, .int (0 : Int32)), (2, .long (1 : Int64)), (0, .ref (eA ε 1)), (1, .int v1)]) C dX2_leftAt_3 (by decide) rfl ?_
  refine V_sub C [2, 3, 1, 0] rfl ?_
  exact v_X2_leftAt_5 C X N _ _ _ h
theorem c_X2_leftAt {ε : eT} {N : Nat} {S : St} {v1 : Int32} {res : Int64} (h : f_X2_leftAt N S v1 = some res) : CI ε yX2_leftAt cX2_leftAt 5 (some .long) 2 [.ref (eA ε 1), .int v1] S (some (.long res)) S := CI_of (by decide) (Nat.le_of_ble_eq_true rfl) rfl (fun κ C X => v_X2_leftAt_e C X h)
def f_X2_gainAt (N : Nat) (S : St) (v1 : Int32) (v2 : Int32) : Option Int64 :=
 bnd (f_X2_leftAt N S v1) (fun a2 =>
 some (((100 : Int64) * ((((S.2 1) - a2) * (v1).toInt64) + (a2 * ((S.1 1 4)).toInt64))) - (((S.2 1) * (v2).toInt64) * (v1).toInt64)))
set_option maxRecDepth 20000 in
theorem v_X2_gainAt_e {ε : eT} {κ : kT} {N : Nat} (C : Act ε κ cX2_gainAt 5 RX2 3) {S : St} {res : Int64} (X : RI ε κ (some .long) (some (.long res)) S) {v1 : Int32} {v2 : Int32} (h : f_X2_gainAt N S v1 v2 = some res) : V ε κ 5 0 [(0, .ref (eA ε 1)), (1, .int v1), (2, .int v2)] [] (wsOf ε S) 0 0 := by
  unfold f_X2_gainAt at h
  refine V_aload_n C 0 dX2_gainAt_0 rfl rfl ?_
  refine V_iload_n C 1 dX2_gainAt_1 rfl rfl ?_
  obtain ⟨a2, e1, h⟩ := bnd_s h
  refine W_callvl C cf_X2_leftAt (c_X2_leftAt e1) q_ML_X2_74 (ws_X2 sk_1) rfl dX2_gainAt_2 (by decide) rfl rfl (Nat.le_of_ble_eq_true rfl) ?_
  refine V_lstore_n (lv' := [(3, .long a2), (0, .ref (eA ε 1)), (1, .int v1), (2, .int v2)]) C dX2_gainAt_5 rfl (by decide) rfl ?_
  refine V_ldc2 C q_KL_X2_78 dX2_gainAt_6 ?_
  refine V_aload_n C 1 dX2_gainAt_9 rfl rfl ?_
  refine G_X2_whole (q := 1) C sk_1 q_FL_X2_49 dX2_gainAt_10 ?_
  refine V_lload_n C 0 dX2_gainAt_13 rfl rfl ?_
  refine V_lsub C dX2_gainAt_14 ?_
  refine V_iload_n C 2 dX2_gainAt_15 rfl rfl ?_
  refine V_i2l C dX2_gainAt_16 ?_
  refine V_lmul C dX2_gainAt_17 ?_
  refine V_lload_n C 0 dX2_gainAt_18 rfl rfl ?_
  refine V_aload_n C 1 dX2_gainAt_19 rfl rfl ?_
  refine G_X2_own (q := 1) C sk_1 q_FL_X2_45 dX2_gainAt_20 ?_
  refine V_i2l C dX2_gainAt_23 ?_
  refine V_lmul C dX2_gainAt_24 ?_
  refine V_ladd C dX2_gainAt_25 ?_
  refine V_lmul C dX2_gainAt_26 ?_
  refine V_aload_n C 1 dX2_gainAt_27 rfl rfl ?_
  refine G_X2_whole (q := 1) C sk_1 q_FL_X2_49 dX2_gainAt_28 ?_
  refine V_iload_n C 3 dX2_gainAt_31 rfl rfl ?_
  refine V_i2l C dX2_gainAt_32 ?_
  refine V_lmul C dX2_gainAt_33 ?_
  refine V_iload_n C 2 dX2_gainAt_34 rfl rfl ?_
  refine V_i2l C dX2_gainAt_35 ?_
  refine V_lmul C dX2_gainAt_36 ?_
  refine V_lsub C dX2_gainAt_37 ?_
  exact V_lret C X dX2_gainAt_38 ⟨rlp_1 h, rfl⟩
theorem c_X2_gainAt {ε : eT} {N : Nat} {S : St} {v1 : Int32} {v2 : Int32} {res : Int64} (h : f_X2_gainAt N S v1 v2 = some res) : CI ε yX2_gainAt cX2_gainAt 5 (some .long) 3 [.ref (eA ε 1), .int v1, .int v2] S (some (.long res)) S := CI_of (by decide) (Nat.le_of_ble_eq_true rfl) rfl (fun κ C X => v_X2_gainAt_e C X h)
def f_X2_candidate (S : St) (v1 : Int32) : Option Int32 :=
 bnd (f_X5_size S 2) (fun a2 =>
 (if v1 = (a2 * (2 : Int32)) then
 some (9999 : Int32)
 else
 bnd (f_X5_at S 2 (v1 / (2 : Int32))) (fun a5 =>
 some (a5 - (v1 - v1 / (2 : Int32) * (2 : Int32))))))
set_option maxRecDepth 20000 in
theorem v_X2_candidate_e {ε : eT} {κ : kT} (C : Act ε κ cX2_candidate 2 RX2 2) {S : St} {res : Int32} (X : RI ε κ (some .int) (some (.int res)) S) {v1 : Int32} (h : f_X2_candidate S v1 = some res) : V ε κ 2 0 [(0, .ref (eA ε 1)), (1, .int v1)] [] (wsOf ε S) 0 0 := by
  unfold f_X2_candidate at h
  refine V_iload_n C 1 dX2_candidate_0 rfl rfl ?_
  refine V_aload_n C 0 dX2_candidate_1 rfl rfl ?_
  refine G_X2_values (q := 1) C sk_1 q_FL_X2_14 dX2_candidate_2 ?_
  obtain ⟨a2, e1, h⟩ := bnd_s h
  refine W_callvi C cf_X5_size (c_X5_size sk_2 e1) q_ML_X2_73 (ws_X5 sk_2) rfl dX2_candidate_5 (by decide) rfl rfl (Nat.le_of_ble_eq_true rfl) ?_
  refine V_iconst C dX2_candidate_8 kc_i_2 ?_
  refine V_imul C dX2_candidate_9 ?_
  refine V_icmp_ne C dX2_candidate_10 rfl (fun c3 => ?_) (fun c3 => ?_)
  · replace h := ifn c3 h
    refine V_aload_n C 0 dX2_candidate_19 rfl rfl ?_
    refine G_X2_values (q := 1) C sk_1 q_FL_X2_14 dX2_candidate_20 ?_
    refine V_iload_n C 1 dX2_candidate_23 rfl rfl ?_
    refine V_iconst C dX2_candidate_24 kc_i_2 ?_
    refine V_idiv C dX2_candidate_25 (by decide) ?_
    obtain ⟨a5, e4, h⟩ := bnd_s h
    refine W_callvi C cf_X5_at (c_X5_at sk_2 e4) q_ML_X2_37 (ws_X5 sk_2) rfl dX2_candidate_26 (by decide) rfl rfl (Nat.le_of_ble_eq_true rfl) ?_
    refine V_iload_n C 1 dX2_candidate_29 rfl rfl ?_
    refine V_iconst C dX2_candidate_30 kc_i_2 ?_
    refine V_irem C dX2_candidate_31 (by decide) ?_
    refine V_isub C dX2_candidate_32 ?_
    exact V_iret C X dX2_candidate_33 ⟨rip_1 h, rfl⟩
  · replace h := ifp c3 h
    refine V_sipush C dX2_candidate_13 kc_s_9999 ?_
    refine V_goto C dX2_candidate_16 rfl ?_
    exact V_iret C X dX2_candidate_33 ⟨rip_1 h, rfl⟩
theorem c_X2_candidate {ε : eT} {S : St} {v1 : Int32} {res : Int32} (h : f_X2_candidate S v1 = some res) : CI ε yX2_candidate cX2_candidate 2 (some .int) 2 [.ref (eA ε 1), .int v1] S (some (.int res)) S := CI_of (by decide) (Nat.le_of_ble_eq_true rfl) rfl (fun κ C X => v_X2_candidate_e C X h)
def f_X2_bestPrice_80 (N : Nat) (S : St) (K12 : Int32 → Int32 → Int64 → Int32 → Option Int32) (v1 : Int32) (v2 : Int32) (v3 : Int64) (v5 : Int32) : Option Int32 :=
 K12 v1 v2 v3 (v5 + 1)
set_option maxRecDepth 20000 in
theorem v_X2_bestPrice_80 {ε : eT} {κ : kT} {N : Nat} (C : Act ε κ cX2_bestPrice 9 RX2 4) {S : St} {res : Int32} (X : RI ε κ (some .int) (some (.int res)) S) {K12 : Int32 → Int32 → Int64 → Int32 → Option Int32} (hK12 : ∀ (v1 : Int32) (v2 : Int32) (v3 : Int64) (v5 : Int32), K12 v1 v2 v3 v5 = some res → V ε κ 9 12 [(0, .ref (eA ε 1)), (1, .int v1), (2, .int v2), (3, .long v3), (5, .int v5)] [] (wsOf ε S) 0 0) {v1 : Int32} {v2 : Int32} {v3 : Int64} {v5 : Int32} (h : f_X2_bestPrice_80 N S K12 v1 v2 v3 v5 = some res) : V ε κ 9 80 [(0, .ref (eA ε 1)), (1, .int v1), (2, .int v2), (3, .long v3), (5, .int v5)] [] (wsOf ε S) 0 0 := by
  unfold f_X2_bestPrice_80 at h
  refine V_iinc (v := (v5 + 1)) (lv' := [(5, .int (v5 + 1)), (0, .ref (eA ε 1)), (1, .int v1), (2, .int v2), (3, .long v3)]) C 4 dX2_bestPrice_80 rfl (congrArg _ kc_i_1) (by decide) rfl ?_
  refine V_goto C dX2_bestPrice_83 rfl ?_
  refine V_sub C [1, 2, 3, 4, 0] rfl ?_
  exact hK12 _ _ _ _ h
def f_X2_bestPrice_74 (N : Nat) (S : St) (K12 : Int32 → Int32 → Int64 → Int32 → Option Int32) (v1 : Int32) (v5 : Int32) (v6 : Int32) (v7 : Int64) : Option Int32 :=
 f_X2_bestPrice_80 N S K12 v1 v6 v7 v5
set_option maxRecDepth 20000 in
theorem v_X2_bestPrice_74 {ε : eT} {κ : kT} {N : Nat} (C : Act ε κ cX2_bestPrice 9 RX2 4) {S : St} {res : Int32} (X : RI ε κ (some .int) (some (.int res)) S) {K12 : Int32 → Int32 → Int64 → Int32 → Option Int32} (hK12 : ∀ (v1 : Int32) (v2 : Int32) (v3 : Int64) (v5 : Int32), K12 v1 v2 v3 v5 = some res → V ε κ 9 12 [(0, .ref (eA ε 1)), (1, .int v1), (2, .int v2), (3, .long v3), (5, .int v5)] [] (wsOf ε S) 0 0) {v1 : Int32} {v5 : Int32} {v6 : Int32} {v7 : Int64} (h : f_X2_bestPrice_74 N S K12 v1 v5 v6 v7 = some res) : V ε κ 9 74 [(0, .ref (eA ε 1)), (1, .int v1), (5, .int v5), (6, .int v6), (7, .long v7)] [] (wsOf ε S) 0 0 := by
  unfold f_X2_bestPrice_74 at h
  refine V_iload C 3 dX2_bestPrice_74 rfl ?_
  refine V_istore_n (lv' := [(2, .int v6), (0, .ref (eA ε 1)), (1, .int v1), (5, .int v5), (6, .int v6), (7, .long v7)]) C dX2_bestPrice_76 rfl (by decide) rfl ?_
  refine V_lload C 5 dX2_bestPrice_77 rfl ?_
  refine V_lstore_n (lv' := [(3, .long v7), (2, .int v6), (0, .ref (eA ε 1)), (1, .int v1), (5, .int v5), (6, .int v6), (7, .long v7)]) C dX2_bestPrice_79 rfl (by decide) rfl ?_
  refine V_sub C [2, 3, 1, 0, 4] rfl ?_
  exact v_X2_bestPrice_80 C X hK12 h
def f_X2_bestPrice_52 (N : Nat) (S : St) (K12 : Int32 → Int32 → Int64 → Int32 → Option Int32) (v1 : Int32) (v2 : Int32) (v3 : Int64) (v5 : Int32) (v6 : Int32) (s0 : Int64) : Option Int32 :=
 (if 0 < (lg_cmp s0 v3) then
 f_X2_bestPrice_74 N S K12 v1 v5 v6 s0
 else
 (if (lg_cmp s0 v3) = 0 then
 (if v2 ≤ v6 then
 f_X2_bestPrice_80 N S K12 v1 v2 v3 v5
 else
 f_X2_bestPrice_74 N S K12 v1 v5 v6 s0)
 else
 f_X2_bestPrice_80 N S K12 v1 v2 v3 v5))
set_option maxRecDepth 20000 in
theorem v_X2_bestPrice_52 {ε : eT} {κ : kT} {N : Nat} (C : Act ε κ cX2_bestPrice 9 RX2 4) {S : St} {res : Int32} (X : RI ε κ (some .int) (some (.int res)) S) {K12 : Int32 → Int32 → Int64 → Int32 → Option Int32} (hK12 : ∀ (v1 : Int32) (v2 : Int32) (v3 : Int64) (v5 : Int32), K12 v1 v2 v3 v5 = some res → V ε κ 9 12 [(0, .ref (eA ε 1)), (1, .int v1), (2, .int v2), (3, .long v3), (5, .int v5)] [] (wsOf ε S) 0 0) {v1 : Int32} {v2 : Int32} {v3 : Int64} {v5 : Int32} {v6 : Int32} {s0 : Int64} (h : f_X2_bestPrice_52 N S K12 v1 v2 v3 v5 v6 s0 = some res) : V ε κ 9 52 [(0, .ref (eA ε 1)), (1, .int v1), (2, .int v2), (3, .long v3), (5, .int v5), (6, .int v6)] [.long s0] (wsOf ε S) 0 0 := by
  unfold f_X2_bestPrice_52 at h
  refine V_lstore (lv' := [(7, .long s0), (0, .ref (eA ε 1)), (1, .int v1), (2, .int v2), (3, .long v3), (5, .int v5), (6, .int v6)]) C dX2_bestPrice_52 (by decide) rfl ?_
  refine V_lload C 0 dX2_bestPrice_54 rfl ?_
  refine V_lload_n C 4 dX2_bestPrice_56 rfl rfl ?_
  refine V_lcmp C dX2_bestPrice_57 ?_
  refine V_if_gt C dX2_bestPrice_58 rfl (fun c1 => ?_) (fun c1 => ?_)
  · replace h := ifp c1 h
    refine V_sub C [1, 2, 5, 6, 0] rfl ?_
    exact v_X2_bestPrice_74 C X hK12 h
  · replace h := ifn c1 h
    refine V_lload C 0 dX2_bestPrice_61 rfl ?_
    refine V_lload_n C 4 dX2_bestPrice_63 rfl rfl ?_
    refine V_lcmp C dX2_bestPrice_64 ?_
    refine V_if_ne C dX2_bestPrice_65 rfl (fun c2 => ?_) (fun c2 => ?_)
    · replace h := ifn c2 h
      refine V_sub C [1, 2, 3, 4, 5] rfl ?_
      exact v_X2_bestPrice_80 C X hK12 h
    · replace h := ifp c2 h
      refine V_iload C 6 dX2_bestPrice_68 rfl ?_
      refine V_iload_n C 3 dX2_bestPrice_70 rfl rfl ?_
      refine V_icmp_ge C dX2_bestPrice_71 rfl (fun c3 => ?_) (fun c3 => ?_)
      · replace h := ifp c3 h
        refine V_sub C [1, 2, 3, 4, 5] rfl ?_
        exact v_X2_bestPrice_80 C X hK12 h
      · replace h := ifn c3 h
        refine V_sub C [1, 2, 5, 6, 0] rfl ?_
        exact v_X2_bestPrice_74 C X hK12 h
def f_X2_bestPrice_12 (N : Nat) (S : St) : Nat → Int32 → Int32 → Int64 → Int32 → Option Int32
  | 0, _, _, _, _ => none
  | n + 1, v1, v2, v3, v5 =>
    bnd (f_X5_size S 2) (fun a2 =>
     (if (a2 * (2 : Int32)) < v5 then
     some v2
     else
     bnd (f_X2_candidate S v5) (fun a5 =>
     (if 0 ≤ a5 then
     bnd (f_X2_gainAt N S a5 v1) (fun a8 =>
     f_X2_bestPrice_52 N S (f_X2_bestPrice_12 N S n) v1 v2 v3 v5 a5 a8)
     else
     f_X2_bestPrice_52 N S (f_X2_bestPrice_12 N S n) v1 v2 v3 v5 a5 (v3 - (1 : Int64))))))
set_option maxRecDepth 20000 in
theorem v_X2_bestPrice_12 {ε : eT} {κ : kT} {N : Nat} (C : Act ε κ cX2_bestPrice 9 RX2 4) {S : St} {res : Int32} (X : RI ε κ (some .int) (some (.int res)) S) : ∀ (n : Nat) (v1 : Int32) (v2 : Int32) (v3 : Int64) (v5 : Int32) (h : f_X2_bestPrice_12 N S n v1 v2 v3 v5 = some res), V ε κ 9 12 [(0, .ref (eA ε 1)), (1, .int v1), (2, .int v2), (3, .long v3), (5, .int v5)] [] (wsOf ε S) 0 0 := by
  intro n
  induction n with
  | zero => intro v1 v2 v3 v5 h; cases h
  | succ n ih =>
    intro v1 v2 v3 v5 h
    rw [f_X2_bestPrice_12] at h
    refine V_iload C 4 dX2_bestPrice_12 rfl ?_
    refine V_aload_n C 0 dX2_bestPrice_14 rfl rfl ?_
    refine G_X2_values (q := 1) C sk_1 q_FL_X2_14 dX2_bestPrice_15 ?_
    obtain ⟨a2, e1, h⟩ := bnd_s h
    refine W_callvi C cf_X5_size (c_X5_size sk_2 e1) q_ML_X2_73 (ws_X5 sk_2) rfl dX2_bestPrice_18 (by decide) rfl rfl (Nat.le_of_ble_eq_true rfl) ?_
    refine V_iconst C dX2_bestPrice_21 kc_i_2 ?_
    refine V_imul C dX2_bestPrice_22 ?_
    refine V_icmp_gt C dX2_bestPrice_23 rfl (fun c3 => ?_) (fun c3 => ?_)
    · replace h := ifp c3 h
      refine V_iload_n C 2 dX2_bestPrice_86 rfl rfl ?_
      exact V_iret C X dX2_bestPrice_87 ⟨rip_1 h, rfl⟩
    · replace h := ifn c3 h
      refine V_aload_n C 0 dX2_bestPrice_26 rfl rfl ?_
      refine V_iload C 4 dX2_bestPrice_27 rfl ?_
      obtain ⟨a5, e4, h⟩ := bnd_s h
      refine W_callvi C cf_X2_candidate (c_X2_candidate e4) q_ML_X2_84 (ws_X2 sk_1) rfl dX2_bestPrice_29 (by decide) rfl rfl (Nat.le_of_ble_eq_true rfl) ?_
      refine V_istore (lv' := [(6, .int a5), (0, .ref (eA ε 1)), (1, .int v1), (2, .int v2), (3, .long v3), (5, .int v5)]) C dX2_bestPrice_32 (by decide) rfl ?_
      refine V_iload C 0 dX2_bestPrice_34 rfl ?_
      refine V_if_ge C dX2_bestPrice_36 rfl (fun c6 => ?_) (fun c6 => ?_)
      · replace h := ifp c6 h
        refine V_aload_n C 1 dX2_bestPrice_45 rfl rfl ?_
        refine V_iload C 0 dX2_bestPrice_46 rfl ?_
        refine V_iload_n C 2 dX2_bestPrice_48 rfl rfl ?_
        obtain ⟨a8, e7, h⟩ := bnd_s h
        refine W_callvl C cf_X2_gainAt (c_X2_gainAt e7) q_ML_X2_80 (ws_X2 sk_1) rfl dX2_bestPrice_49 (by decide) rfl rfl (Nat.le_of_ble_eq_true rfl) ?_
        refine V_sub C [1, 2, 3, 4, 5, 0] rfl ?_
        exact v_X2_bestPrice_52 C X ih h
      · replace h := ifn c6 h
        refine V_lload_n C 4 dX2_bestPrice_39 rfl rfl ?_
        refine V_lconst C dX2_bestPrice_40 kc_l_1 ?_
        refine V_lsub C dX2_bestPrice_41 ?_
        refine V_goto C dX2_bestPrice_42 rfl ?_
        refine V_sub C [1, 2, 3, 4, 5, 0] rfl ?_
        exact v_X2_bestPrice_52 C X ih h
def f_X2_bestPrice (N : Nat) (S : St) (v1 : Int32) : Option Int32 :=
 bnd (f_X2_gainAt N S (0 : Int32) v1) (fun a2 =>
 f_X2_bestPrice_12 N S N v1 (0 : Int32) a2 (0 : Int32))
set_option maxRecDepth 20000 in
theorem v_X2_bestPrice_e {ε : eT} {κ : kT} {N : Nat} (C : Act ε κ cX2_bestPrice 9 RX2 4) {S : St} {res : Int32} (X : RI ε κ (some .int) (some (.int res)) S) {v1 : Int32} (h : f_X2_bestPrice N S v1 = some res) : V ε κ 9 0 [(0, .ref (eA ε 1)), (1, .int v1)] [] (wsOf ε S) 0 0 := by
  unfold f_X2_bestPrice at h
  refine V_iconst C dX2_bestPrice_0 kc_i_0 ?_
  refine V_istore_n (lv' := [(2, .int (0 : Int32)), (0, .ref (eA ε 1)), (1, .int v1)]) C dX2_bestPrice_1 rfl (by decide) rfl ?_
  refine V_aload_n C 1 dX2_bestPrice_2 rfl rfl ?_
  refine V_iconst C dX2_bestPrice_3 kc_i_0 ?_
  refine V_iload_n C 2 dX2_bestPrice_4 rfl rfl ?_
  obtain ⟨a2, e1, h⟩ := bnd_s h
  refine W_callvl C cf_X2_gainAt (c_X2_gainAt e1) q_ML_X2_80 (ws_X2 sk_1) rfl dX2_bestPrice_5 (by decide) rfl rfl (Nat.le_of_ble_eq_true rfl) ?_
  refine V_lstore_n (lv' := [(3, .long a2), (2, .int (0 : Int32)), (0, .ref (eA ε 1)), (1, .int v1)]) C dX2_bestPrice_8 rfl (by decide) rfl ?_
  refine V_iconst C dX2_bestPrice_9 kc_i_0 ?_
  refine V_istore (lv' := [(5, .int (0 : Int32)), (3, .long a2), (2, .int (0 : Int32)), (0, .ref (eA ε 1)), (1, .int v1)]) C dX2_bestPrice_10 (by decide) rfl ?_
  refine V_sub C [3, 4, 2, 1, 0] rfl ?_
  exact v_X2_bestPrice_12 C X N _ _ _ _ h
theorem c_X2_bestPrice {ε : eT} {N : Nat} {S : St} {v1 : Int32} {res : Int32} (h : f_X2_bestPrice N S v1 = some res) : CI ε yX2_bestPrice cX2_bestPrice 9 (some .int) 4 [.ref (eA ε 1), .int v1] S (some (.int res)) S := CI_of (by decide) (Nat.le_of_ble_eq_true rfl) rfl (fun κ C X => v_X2_bestPrice_e C X h)
def f_X9_nameFor (N : Nat) (S : St) (v0 : Nat) (v1 : Int32) : Option (Int32 × St) :=
 bnd (f_X5_at S (v0 + 11) v1) (fun a2 =>
 bnd (f_X8_valueOf S (v0 + 10) a2 v1) (fun a4 =>
 bnd (f_X5_at S (v0 + 2) a2) (fun a6 =>
 (if a6 = 0 then
 bnd (f_X5_at S (v0 + 13) v1) (fun a14 =>
 some (a14, S))
 else
 (if a6 = 1 then
 some (a4, S)
 else
 (if a6 = 2 then
 some ((if (9999 : Int32) < (a4 * (2 : Int32)) then (9999 : Int32) else (a4 * (2 : Int32))), S)
 else
 (if a6 = 3 then
 some ((a4 / (2 : Int32)), S)
 else
 (if a6 = 4 then
 bnd (f_X9_mostElse N S v0 v1) (fun a16 =>
 some ((if (a16 - (1 : Int32)) < (0 : Int32) then (0 : Int32) else (a16 - (1 : Int32))), S))
 else
 (if a6 = 5 then
 bnd (f_X7_stands S (v0 + 29)) (fun a18 =>
 (if a18 = 0 then
 some (a4, S)
 else
 bnd2 (f_X9_nameByText N S v0 v1 a4) (fun a21 S22 =>
 some (a21, S22))))
 else
 bnd (f_X2_look N S v0 v1) (fun S24 =>
 bnd (f_X5_at S24 (v0 + 27) (0 : Int32)) (fun a26 =>
 bnd (f_X2_bestPrice N S24 a26) (fun a28 =>
 some (a28, S24)))))))))))))
set_option maxRecDepth 20000 in
theorem v_X9_nameFor_e {ε : eT} {κ : kT} {N : Nat} (C : Act ε κ cX9_nameFor 4 RX9 5) {S : St} {res : (Int32 × St)} (X : RI ε κ (some .int) (some (.int res.1)) res.2) {v0 : Nat} {v1 : Int32} (h0 : sh v0 = 9) (h : f_X9_nameFor N S v0 v1 = some res) : V ε κ 4 0 [(0, .ref (eA ε v0)), (1, .int v1)] [] (wsOf ε S) 0 0 := by
  unfold f_X9_nameFor at h
  refine V_aload_n C 0 dX9_nameFor_0 rfl rfl ?_
  refine G_X9_things (q := v0) C h0 q_FL_X9_21 dX9_nameFor_1 ?_
  refine G_X8_owners (q := (v0 + 10)) C (so_9_10 h0) q_FL_X9_113 dX9_nameFor_4 ?_
  refine V_iload_n C 1 dX9_nameFor_7 rfl rfl ?_
  obtain ⟨a2, e1, h⟩ := bnd_s h
  refine W_callvi C cf_X5_at (c_X5_at (so_9_11 h0) e1) q_ML_X9_106 (ws_X5 (so_9_11 h0)) rfl dX9_nameFor_8 (by decide) rfl rfl (Nat.le_of_ble_eq_true rfl) ?_
  refine V_istore_n (lv' := [(2, .int a2), (0, .ref (eA ε v0)), (1, .int v1)]) C dX9_nameFor_11 rfl (by decide) rfl ?_
  refine V_aload_n C 1 dX9_nameFor_12 rfl rfl ?_
  refine G_X9_things (q := v0) C h0 q_FL_X9_21 dX9_nameFor_13 ?_
  refine V_iload_n C 0 dX9_nameFor_16 rfl rfl ?_
  refine V_iload_n C 2 dX9_nameFor_17 rfl rfl ?_
  obtain ⟨a4, e3, h⟩ := bnd_s h
  refine W_callvi C cf_X8_valueOf (c_X8_valueOf (so_9_10 h0) e3) q_ML_X9_117 (ws_X8 (so_9_10 h0)) rfl dX9_nameFor_18 (by decide) rfl rfl (Nat.le_of_ble_eq_true rfl) ?_
  refine V_istore_n (lv' := [(3, .int a4), (2, .int a2), (0, .ref (eA ε v0)), (1, .int v1)]) C dX9_nameFor_21 rfl (by decide) rfl ?_
  refine V_aload_n C 2 dX9_nameFor_22 rfl rfl ?_
  refine G_X9_people (q := v0) C h0 q_FL_X9_12 dX9_nameFor_23 ?_
  refine G_X3_kinds (q := (v0 + 1)) C (so_9_1 h0) q_FL_X9_126 dX9_nameFor_26 ?_
  refine V_iload_n C 1 dX9_nameFor_29 rfl rfl ?_
  obtain ⟨a6, e5, h⟩ := bnd_s h
  refine W_callvi C cf_X5_at (c_X5_at (so_9_2 h0) e5) q_ML_X9_106 (ws_X5 (so_9_2 h0)) rfl dX9_nameFor_30 (by decide) rfl rfl (Nat.le_of_ble_eq_true rfl) ?_
  by_cases c7 : a6 = 0
  · replace h := ifp c7 h
    refine V_table C rfl dX9_nameFor_33 (off := 39) (by rw [c7]; decide +kernel) (tgt := 72) rfl ?_
    refine V_aload_n C 2 dX9_nameFor_72 rfl rfl ?_
    refine G_X9_things (q := v0) C h0 q_FL_X9_21 dX9_nameFor_73 ?_
    refine G_X8_prices (q := (v0 + 10)) C (so_9_10 h0) q_FL_X9_129 dX9_nameFor_76 ?_
    refine V_iload_n C 3 dX9_nameFor_79 rfl rfl ?_
    obtain ⟨a14, e13, h⟩ := bnd_s h
    refine W_callvi C cf_X5_at (c_X5_at (so_9_13 h0) e13) q_ML_X9_106 (ws_X5 (so_9_13 h0)) rfl dX9_nameFor_80 (by decide) rfl rfl (Nat.le_of_ble_eq_true rfl) ?_
    exact V_iret C X dX9_nameFor_83 ⟨ri_1 h, ri_2 h⟩
  · replace h := ifn c7 h
    by_cases c8 : a6 = 1
    · replace h := ifp c8 h
      refine V_table C rfl dX9_nameFor_33 (off := 51) (by rw [c8]; decide +kernel) (tgt := 84) rfl ?_
      refine V_iload_n C 0 dX9_nameFor_84 rfl rfl ?_
      exact V_iret C X dX9_nameFor_85 ⟨ri_1 h, ri_2 h⟩
    · replace h := ifn c8 h
      by_cases c9 : a6 = 2
      · replace h := ifp c9 h
        refine V_table C rfl dX9_nameFor_33 (off := 53) (by rw [c9]; decide +kernel) (tgt := 86) rfl ?_
        refine V_iload_n C 0 dX9_nameFor_86 rfl rfl ?_
        refine V_iconst C dX9_nameFor_87 kc_i_2 ?_
        refine V_imul C dX9_nameFor_88 ?_
        refine V_sipush C dX9_nameFor_89 kc_s_9999 ?_
        refine V_mmin C q_ML_X9_132 (by decide) (Nat.le_of_ble_eq_true rfl) ⟨Nat.zero_le _, Nat.zero_le _⟩ dX9_nameFor_92 ?_
        exact V_iret C X dX9_nameFor_95 ⟨ri_1 h, ri_2 h⟩
      · replace h := ifn c9 h
        by_cases c10 : a6 = 3
        · replace h := ifp c10 h
          refine V_table C rfl dX9_nameFor_33 (off := 63) (by rw [c10]; decide +kernel) (tgt := 96) rfl ?_
          refine V_iload_n C 0 dX9_nameFor_96 rfl rfl ?_
          refine V_iconst C dX9_nameFor_97 kc_i_2 ?_
          refine V_idiv C dX9_nameFor_98 (by decide) ?_
          exact V_iret C X dX9_nameFor_99 ⟨ri_1 h, ri_2 h⟩
        · replace h := ifn c10 h
          by_cases c11 : a6 = 4
          · replace h := ifp c11 h
            refine V_table C rfl dX9_nameFor_33 (off := 67) (by rw [c11]; decide +kernel) (tgt := 100) rfl ?_
            refine V_aload_n C 2 dX9_nameFor_100 rfl rfl ?_
            refine V_iload_n C 3 dX9_nameFor_101 rfl rfl ?_
            obtain ⟨a16, e15, h⟩ := bnd_s h
            refine W_callvi C cf_X9_mostElse (c_X9_mostElse h0 e15) q_ML_X9_135 (ws_X9 h0) rfl dX9_nameFor_102 (by decide) rfl rfl (Nat.le_of_ble_eq_true rfl) ?_
            refine V_iconst C dX9_nameFor_105 kc_i_1 ?_
            refine V_isub C dX9_nameFor_106 ?_
            refine V_iconst C dX9_nameFor_107 kc_i_0 ?_
            refine V_mmax C q_ML_X9_121 (by decide) (Nat.le_of_ble_eq_true rfl) ⟨Nat.zero_le _, Nat.zero_le _⟩ dX9_nameFor_108 ?_
            exact V_iret C X dX9_nameFor_111 ⟨ri_1 h, ri_2 h⟩
          · replace h := ifn c11 h
            by_cases c12 : a6 = 5
            · replace h := ifp c12 h
              refine V_table C rfl dX9_nameFor_33 (off := 79) (by rw [c12]; decide +kernel) (tgt := 112) rfl ?_
              refine V_aload_n C 2 dX9_nameFor_112 rfl rfl ?_
              refine G_X9_naming (q := v0) C h0 q_FL_X9_53 dX9_nameFor_113 ?_
              obtain ⟨a18, e17, h⟩ := bnd_s h
              refine W_callvi C cf_X7_stands (c_X7_stands (so_9_29 h0) e17) q_ML_X9_138 (ws_X7 (so_9_29 h0)) rfl dX9_nameFor_116 (by decide) rfl rfl (Nat.le_of_ble_eq_true rfl) ?_
              refine V_if_eq C dX9_nameFor_119 rfl (fun c19 => ?_) (fun c19 => ?_)
              · replace h := ifp c19 h
                refine V_iload_n C 0 dX9_nameFor_131 rfl rfl ?_
                exact V_iret C X dX9_nameFor_132 ⟨ri_1 h, ri_2 h⟩
              · replace h := ifn c19 h
                refine V_aload_n C 2 dX9_nameFor_122 rfl rfl ?_
                refine V_iload_n C 3 dX9_nameFor_123 rfl rfl ?_
                refine V_iload_n C 0 dX9_nameFor_124 rfl rfl ?_
                obtain ⟨a21, S22, e20, h⟩ := bnd2_s h
                refine W_callvi C cf_X9_nameByText (c_X9_nameByText h0 e20) q_ML_X9_142 (ws_X9 h0) rfl dX9_nameFor_125 (by decide) rfl rfl (Nat.le_of_ble_eq_true rfl) ?_
                refine V_goto C dX9_nameFor_128 rfl ?_
                exact V_iret C X dX9_nameFor_132 ⟨ri_1 h, ri_2 h⟩
            · replace h := ifn c12 h
              refine V_table C rfl dX9_nameFor_33 (swt_d [(0 : Int32), (1 : Int32), (2 : Int32), (3 : Int32), (4 : Int32), (5 : Int32)] (List.forall_mem_cons.mpr ⟨c7, (List.forall_mem_cons.mpr ⟨c8, (List.forall_mem_cons.mpr ⟨c9, (List.forall_mem_cons.mpr ⟨c10, (List.forall_mem_cons.mpr ⟨c11, (List.forall_mem_cons.mpr ⟨c12, (fun _ h => absurd h List.not_mem_nil)⟩)⟩)⟩)⟩)⟩)⟩) rfl (by decide +kernel)) (tgt := 133) rfl ?_
              refine V_aload_n C 2 dX9_nameFor_133 rfl rfl ?_
              refine G_X9_market (q := v0) C h0 q_FL_X9_66 dX9_nameFor_134 ?_
              refine V_aload_n C 2 dX9_nameFor_137 rfl rfl ?_
              refine V_iload_n C 3 dX9_nameFor_138 rfl rfl ?_
              obtain ⟨S24, e23, h⟩ := bnd_s h
              refine W_callvn C cf_X2_look (c_X2_look h0 e23) q_ML_X9_145 (ws_X2 sk_1) rfl dX9_nameFor_139 (by decide) rfl rfl (Nat.le_of_ble_eq_true rfl) ?_
              refine V_aload_n C 2 dX9_nameFor_142 rfl rfl ?_
              refine G_X9_market (q := v0) C h0 q_FL_X9_66 dX9_nameFor_143 ?_
              refine V_aload_n C 2 dX9_nameFor_146 rfl rfl ?_
              refine G_X9_rules (q := v0) C h0 q_FL_X9_40 dX9_nameFor_147 ?_
              refine V_iconst C dX9_nameFor_150 kc_i_0 ?_
              obtain ⟨a26, e25, h⟩ := bnd_s h
              refine W_callvi C cf_X5_at (c_X5_at (so_9_27 h0) e25) q_ML_X9_106 (ws_X5 (so_9_27 h0)) rfl dX9_nameFor_151 (by decide) rfl rfl (Nat.le_of_ble_eq_true rfl) ?_
              obtain ⟨a28, e27, h⟩ := bnd_s h
              refine W_callvi C cf_X2_bestPrice (c_X2_bestPrice e27) q_ML_X9_151 (ws_X2 sk_1) rfl dX9_nameFor_154 (by decide) rfl rfl (Nat.le_of_ble_eq_true rfl) ?_
              exact V_iret C X dX9_nameFor_157 ⟨ri_1 h, ri_2 h⟩
theorem c_X9_nameFor {ε : eT} {N : Nat} {S : St} {v0 : Nat} {v1 : Int32} {res : (Int32 × St)} (h0 : sh v0 = 9) (h : f_X9_nameFor N S v0 v1 = some res) : CI ε yX9_nameFor cX9_nameFor 4 (some .int) 5 [.ref (eA ε v0), .int v1] S (some (.int res.1)) res.2 := CI_of (by decide) (Nat.le_of_ble_eq_true rfl) rfl (fun κ C X => v_X9_nameFor_e C X h0 h)
def f_X0_nameAll_2 (N : Nat) : Nat → St → Nat → Int32 → Option St
  | 0, _, _, _ => none
  | n + 1, S, v0, v1 =>
    bnd (f_X8_size S (v0 + 10)) (fun a2 =>
     (if a2 ≤ v1 then
     some S
     else
     bnd2 (f_X9_nameFor N S v0 v1) (fun a5 S6 =>
     bnd (f_X5_set S6 (v0 + 13) v1 a5) (fun S8 =>
     f_X0_nameAll_2 N n S8 v0 (v1 + 1)))))
set_option maxRecDepth 20000 in
theorem v_X0_nameAll_2 {ε : eT} {κ : kT} {N : Nat} (C : Act ε κ cX0_nameAll 2 RX0 6) {res : St} (X : RI ε κ none none res) : ∀ (n : Nat) (S : St) (v0 : Nat) (v1 : Int32) (h0 : sh v0 = 9) (h : f_X0_nameAll_2 N n S v0 v1 = some res), V ε κ 2 2 [(0, .ref (eA ε v0)), (1, .int v1)] [] (wsOf ε S) 0 0 := by
  intro n
  induction n with
  | zero => intro S v0 v1 h0 h; cases h
  | succ n ih =>
    intro S v0 v1 h0 h
    rw [f_X0_nameAll_2] at h
    refine V_iload_n C 1 dX0_nameAll_2 rfl rfl ?_
    refine V_aload_n C 0 dX0_nameAll_3 rfl rfl ?_
    refine G_X9_things (q := v0) C h0 q_FL_X0_33 dX0_nameAll_4 ?_
    obtain ⟨a2, e1, h⟩ := bnd_s h
    refine W_callvi C cf_X8_size (c_X8_size (so_9_10 h0) e1) q_ML_X0_37 (ws_X8 (so_9_10 h0)) rfl dX0_nameAll_7 (by decide) rfl rfl (Nat.le_of_ble_eq_true rfl) ?_
    refine V_icmp_ge C dX0_nameAll_10 rfl (fun c3 => ?_) (fun c3 => ?_)
    · replace h := ifp c3 h
      exact V_vret C X dX0_nameAll_35 ⟨rfl, rv_2 h⟩
    · replace h := ifn c3 h
      refine V_aload_n C 0 dX0_nameAll_13 rfl rfl ?_
      refine G_X9_things (q := v0) C h0 q_FL_X0_33 dX0_nameAll_14 ?_
      refine G_X8_prices (q := (v0 + 10)) C (so_9_10 h0) q_FL_X0_43 dX0_nameAll_17 ?_
      refine V_iload_n C 1 dX0_nameAll_20 rfl rfl ?_
      refine V_aload_n C 0 dX0_nameAll_21 rfl rfl ?_
      refine V_iload_n C 1 dX0_nameAll_22 rfl rfl ?_
      obtain ⟨a5, S6, e4, h⟩ := bnd2_s h
      refine W_callvi C cf_X9_nameFor (c_X9_nameFor h0 e4) q_ML_X0_47 (ws_X9 h0) rfl dX0_nameAll_23 (by decide) rfl rfl (Nat.le_of_ble_eq_true rfl) ?_
      obtain ⟨S8, e7, h⟩ := bnd_s h
      refine W_callvn C cf_X5_set (c_X5_set (so_9_13 h0) e7) q_ML_X0_51 (ws_X5 (so_9_13 h0)) rfl dX0_nameAll_26 (by decide) rfl rfl (Nat.le_of_ble_eq_true rfl) ?_
      refine V_iinc (v := (v1 + 1)) (lv' := [(1, .int (v1 + 1)), (0, .ref (eA ε v0))]) C 1 dX0_nameAll_29 rfl (congrArg _ kc_i_1) (by decide) rfl ?_
      refine V_goto C dX0_nameAll_32 rfl ?_
      refine V_sub C [1, 0] rfl ?_
      exact ih _ _ _ h0 h
def f_X0_nameAll (N : Nat) (S : St) (v0 : Nat) : Option St :=
 f_X0_nameAll_2 N N S v0 (0 : Int32)
set_option maxRecDepth 20000 in
theorem v_X0_nameAll_e {ε : eT} {κ : kT} {N : Nat} (C : Act ε κ cX0_nameAll 2 RX0 6) {S : St} {res : St} (X : RI ε κ none none res) {v0 : Nat} (h0 : sh v0 = 9) (h : f_X0_nameAll N S v0 = some res) : V ε κ 2 0 [(0, .ref (eA ε v0))] [] (wsOf ε S) 0 0 := by
  unfold f_X0_nameAll at h
  refine V_iconst C dX0_nameAll_0 kc_i_0 ?_
  refine V_istore_n (lv' := [(1, .int (0 : Int32)), (0, .ref (eA ε v0))]) C dX0_nameAll_1 rfl (by decide) rfl ?_
  refine V_sub C [1, 0] rfl ?_
  exact v_X0_nameAll_2 C X N _ _ _ h0 h
theorem c_X0_nameAll {ε : eT} {N : Nat} {S : St} {v0 : Nat} {res : St} (h0 : sh v0 = 9) (h : f_X0_nameAll N S v0 = some res) : CI ε yX0_nameAll cX0_nameAll 2 none 6 [.ref (eA ε v0)] S none res := CI_of (by decide) (Nat.le_of_ble_eq_true rfl) rfl (fun κ C X => v_X0_nameAll_e C X h0 h)
def f_X3_spend (S : St) (v0 : Nat) (v1 : Int32) (v2 : Int32) : Option St :=
 bnd (f_X5_at S (v0 + 3) v1) (fun a2 =>
 bnd (f_X5_set S (v0 + 3) v1 (a2 - v2)) (fun S4 =>
 some S4))
set_option maxRecDepth 20000 in
theorem v_X3_spend_e {ε : eT} {κ : kT} (C : Act ε κ cX3_spend 3 RX3 2) {S : St} {res : St} (X : RI ε κ none none res) {v0 : Nat} {v1 : Int32} {v2 : Int32} (h0 : sh v0 = 3) (h : f_X3_spend S v0 v1 v2 = some res) : V ε κ 3 0 [(0, .ref (eA ε v0)), (1, .int v1), (2, .int v2)] [] (wsOf ε S) 0 0 := by
  unfold f_X3_spend at h
  refine V_aload_n C 0 dX3_spend_0 rfl rfl ?_
  refine G_X3_purses (q := v0) C h0 q_FL_X3_20 dX3_spend_1 ?_
  refine V_iload_n C 1 dX3_spend_4 rfl rfl ?_
  refine V_aload_n C 0 dX3_spend_5 rfl rfl ?_
  refine G_X3_purses (q := v0) C h0 q_FL_X3_20 dX3_spend_6 ?_
  refine V_iload_n C 1 dX3_spend_9 rfl rfl ?_
  obtain ⟨a2, e1, h⟩ := bnd_s h
  refine W_callvi C cf_X5_at (c_X5_at (so_3_3 h0) e1) q_ML_X3_36 (ws_X5 (so_3_3 h0)) rfl dX3_spend_10 (by decide) rfl rfl (Nat.le_of_ble_eq_true rfl) ?_
  refine V_iload_n C 2 dX3_spend_13 rfl rfl ?_
  refine V_isub C dX3_spend_14 ?_
  obtain ⟨S4, e3, h⟩ := bnd_s h
  refine W_callvn C cf_X5_set (c_X5_set (so_3_3 h0) e3) q_ML_X3_47 (ws_X5 (so_3_3 h0)) rfl dX3_spend_15 (by decide) rfl rfl (Nat.le_of_ble_eq_true rfl) ?_
  exact V_vret C X dX3_spend_18 ⟨rfl, rv_2 h⟩
theorem c_X3_spend {ε : eT} {S : St} {v0 : Nat} {v1 : Int32} {v2 : Int32} {res : St} (h0 : sh v0 = 3) (h : f_X3_spend S v0 v1 v2 = some res) : CI ε yX3_spend cX3_spend 3 none 2 [.ref (eA ε v0), .int v1, .int v2] S none res := CI_of (by decide) (Nat.le_of_ble_eq_true rfl) rfl (fun κ C X => v_X3_spend_e C X h0 h)
def f_X0_payAll_2 (N : Nat) : Nat → St → Nat → Int32 → Option St
  | 0, _, _, _ => none
  | n + 1, S, v0, v1 =>
    bnd (f_X8_size S (v0 + 10)) (fun a2 =>
     (if a2 ≤ v1 then
     some S
     else
     bnd (f_X5_at S (v0 + 11) v1) (fun a5 =>
     bnd (f_X5_at S (v0 + 27) (0 : Int32)) (fun a7 =>
     bnd (f_X5_at S (v0 + 13) v1) (fun a9 =>
     bnd (f_X5_at S (v0 + 4) a5) (fun a11 =>
     bnd (f_X3_spend S (v0 + 1) a5 (if a11 < ((a7 * a9) / (100 : Int32)) then a11 else ((a7 * a9) / (100 : Int32)))) (fun S13 =>
     f_X0_payAll_2 N n (pt S13 v0 13 (if (1999999999 : Int32) < ((S13.1 v0 13) + (if a11 < ((a7 * a9) / (100 : Int32)) then a11 else ((a7 * a9) / (100 : Int32)))) then (1999999999 : Int32) else ((S13.1 v0 13) + (if a11 < ((a7 * a9) / (100 : Int32)) then a11 else ((a7 * a9) / (100 : Int32)))))) v0 (v1 + 1))))))))
set_option maxRecDepth 20000 in
theorem v_X0_payAll_2 {ε : eT} {κ : kT} {N : Nat} (C : Act ε κ cX0_payAll 5 RX0 3) {res : St} (X : RI ε κ none none res) : ∀ (n : Nat) (S : St) (v0 : Nat) (v1 : Int32) (h0 : sh v0 = 9) (h : f_X0_payAll_2 N n S v0 v1 = some res), V ε κ 5 2 [(0, .ref (eA ε v0)), (1, .int v1)] [] (wsOf ε S) 0 0 := by
  intro n
  induction n with
  | zero => intro S v0 v1 h0 h; cases h
  | succ n ih =>
    intro S v0 v1 h0 h
    rw [f_X0_payAll_2] at h
    refine V_iload_n C 1 dX0_payAll_2 rfl rfl ?_
    refine V_aload_n C 0 dX0_payAll_3 rfl rfl ?_
    refine G_X9_things (q := v0) C h0 q_FL_X0_33 dX0_payAll_4 ?_
    obtain ⟨a2, e1, h⟩ := bnd_s h
    refine W_callvi C cf_X8_size (c_X8_size (so_9_10 h0) e1) q_ML_X0_37 (ws_X8 (so_9_10 h0)) rfl dX0_payAll_7 (by decide) rfl rfl (Nat.le_of_ble_eq_true rfl) ?_
    refine V_icmp_ge C dX0_payAll_10 rfl (fun c3 => ?_) (fun c3 => ?_)
    · replace h := ifp c3 h
      exact V_vret C X dX0_payAll_98 ⟨rfl, rv_2 h⟩
    · replace h := ifn c3 h
      refine V_aload_n C 0 dX0_payAll_13 rfl rfl ?_
      refine G_X9_things (q := v0) C h0 q_FL_X0_33 dX0_payAll_14 ?_
      refine G_X8_owners (q := (v0 + 10)) C (so_9_10 h0) q_FL_X0_57 dX0_payAll_17 ?_
      refine V_iload_n C 1 dX0_payAll_20 rfl rfl ?_
      obtain ⟨a5, e4, h⟩ := bnd_s h
      refine W_callvi C cf_X5_at (c_X5_at (so_9_11 h0) e4) q_ML_X0_60 (ws_X5 (so_9_11 h0)) rfl dX0_payAll_21 (by decide) rfl rfl (Nat.le_of_ble_eq_true rfl) ?_
      refine V_istore_n (lv' := [(2, .int a5), (0, .ref (eA ε v0)), (1, .int v1)]) C dX0_payAll_24 rfl (by decide) rfl ?_
      refine V_aload_n C 1 dX0_payAll_25 rfl rfl ?_
      refine G_X9_rules (q := v0) C h0 q_FL_X0_63 dX0_payAll_26 ?_
      refine V_iconst C dX0_payAll_29 kc_i_0 ?_
      obtain ⟨a7, e6, h⟩ := bnd_s h
      refine W_callvi C cf_X5_at (c_X5_at (so_9_27 h0) e6) q_ML_X0_60 (ws_X5 (so_9_27 h0)) rfl dX0_payAll_30 (by decide) rfl rfl (Nat.le_of_ble_eq_true rfl) ?_
      refine V_aload_n C 1 dX0_payAll_33 rfl rfl ?_
      refine G_X9_things (q := v0) C h0 q_FL_X0_33 dX0_payAll_34 ?_
      refine G_X8_prices (q := (v0 + 10)) C (so_9_10 h0) q_FL_X0_43 dX0_payAll_37 ?_
      refine V_iload_n C 2 dX0_payAll_40 rfl rfl ?_
      obtain ⟨a9, e8, h⟩ := bnd_s h
      refine W_callvi C cf_X5_at (c_X5_at (so_9_13 h0) e8) q_ML_X0_60 (ws_X5 (so_9_13 h0)) rfl dX0_payAll_41 (by decide) rfl rfl (Nat.le_of_ble_eq_true rfl) ?_
      refine V_imul C dX0_payAll_44 ?_
      refine V_bipush C dX0_payAll_45 kc_b_100 ?_
      refine V_idiv C dX0_payAll_47 (by decide) ?_
      refine V_istore_n (lv' := [(3, .int ((a7 * a9) / (100 : Int32))), (2, .int a5), (0, .ref (eA ε v0)), (1, .int v1)]) C dX0_payAll_48 rfl (by decide) rfl ?_
      refine V_iload_n C 0 dX0_payAll_49 rfl rfl ?_
      refine V_aload_n C 2 dX0_payAll_50 rfl rfl ?_
      refine G_X9_people (q := v0) C h0 q_FL_X0_66 dX0_payAll_51 ?_
      refine G_X3_purses (q := (v0 + 1)) C (so_9_1 h0) q_FL_X0_70 dX0_payAll_54 ?_
      refine V_iload_n C 1 dX0_payAll_57 rfl rfl ?_
      obtain ⟨a11, e10, h⟩ := bnd_s h
      refine W_callvi C cf_X5_at (c_X5_at (so_9_4 h0) e10) q_ML_X0_60 (ws_X5 (so_9_4 h0)) rfl dX0_payAll_58 (by decide) rfl rfl (Nat.le_of_ble_eq_true rfl) ?_
      refine V_mmin C q_ML_X0_75 (by decide) (Nat.le_of_ble_eq_true rfl) ⟨Nat.zero_le _, Nat.zero_le _⟩ dX0_payAll_61 ?_
      refine V_istore (lv' := [(4, .int (if a11 < ((a7 * a9) / (100 : Int32)) then a11 else ((a7 * a9) / (100 : Int32)))), (3, .int ((a7 * a9) / (100 : Int32))), (2, .int a5), (0, .ref (eA ε v0)), (1, .int v1)]) C dX0_payAll_64 (by decide) rfl ?_
      refine V_aload_n C 3 dX0_payAll_66 rfl rfl ?_
      refine G_X9_people (q := v0) C h0 q_FL_X0_66 dX0_payAll_67 ?_
      refine V_iload_n C 2 dX0_payAll_70 rfl rfl ?_
      refine V_iload C 0 dX0_payAll_71 rfl ?_
      obtain ⟨S13, e12, h⟩ := bnd_s h
      refine W_callvn C cf_X3_spend (c_X3_spend (so_9_1 h0) e12) q_ML_X0_81 (ws_X3 (so_9_1 h0)) rfl dX0_payAll_73 (by decide) rfl rfl (Nat.le_of_ble_eq_true rfl) ?_
      refine V_aload_n C 3 dX0_payAll_76 rfl rfl ?_
      refine V_aload_n C 3 dX0_payAll_77 rfl rfl ?_
      refine G_X9_pot (q := v0) C h0 q_FL_X0_84 dX0_payAll_78 ?_
      refine V_iload C 0 dX0_payAll_81 rfl ?_
      refine V_iadd C dX0_payAll_83 ?_
      refine V_ldc C q_K_X0_87 dX0_payAll_84 ?_
      refine V_mmin C q_ML_X0_75 (by decide) (Nat.le_of_ble_eq_true rfl) ⟨Nat.zero_le _, Nat.zero_le _⟩ dX0_payAll_86 ?_
      refine P_X9_pot (q := v0) C h0 q_FL_X0_84 dX0_payAll_89 ?_
      refine V_iinc (v := (v1 + 1)) (lv' := [(1, .int (v1 + 1)), (4, .int (if a11 < ((a7 * a9) / (100 : Int32)) then a11 else ((a7 * a9) / (100 : Int32)))), (3, .int ((a7 * a9) / (100 : Int32))), (2, .int a5), (0, .ref (eA ε v0))]) C 4 dX0_payAll_92 rfl (congrArg _ kc_i_1) (by decide) rfl ?_
      refine V_goto C dX0_payAll_95 rfl ?_
      refine V_sub C [4, 0] rfl ?_
      exact ih _ _ _ h0 h
def f_X0_payAll (N : Nat) (S : St) (v0 : Nat) : Option St :=
 f_X0_payAll_2 N N S v0 (0 : Int32)
set_option maxRecDepth 20000 in
theorem v_X0_payAll_e {ε : eT} {κ : kT} {N : Nat} (C : Act ε κ cX0_payAll 5 RX0 3) {S : St} {res : St} (X : RI ε κ none none res) {v0 : Nat} (h0 : sh v0 = 9) (h : f_X0_payAll N S v0 = some res) : V ε κ 5 0 [(0, .ref (eA ε v0))] [] (wsOf ε S) 0 0 := by
  unfold f_X0_payAll at h
  refine V_iconst C dX0_payAll_0 kc_i_0 ?_
  refine V_istore_n (lv' := [(1, .int (0 : Int32)), (0, .ref (eA ε v0))]) C dX0_payAll_1 rfl (by decide) rfl ?_
  refine V_sub C [1, 0] rfl ?_
  exact v_X0_payAll_2 C X N _ _ _ h0 h
theorem c_X0_payAll {ε : eT} {N : Nat} {S : St} {v0 : Nat} {res : St} (h0 : sh v0 = 9) (h : f_X0_payAll N S v0 = some res) : CI ε yX0_payAll cX0_payAll 5 none 3 [.ref (eA ε v0)] S none res := CI_of (by decide) (Nat.le_of_ble_eq_true rfl) rfl (fun κ C X => v_X0_payAll_e C X h0 h)
def f_X9_nextComes (S : St) (v0 : Nat) (v1 : Int32) : Option (Int32 × St) :=
 bnd (f_X5_at (pt S v0 14 (((S.1 v0 14) * (1103515245 : Int32)) + (12345 : Int32))) (v0 + 8) v1) (fun a2 =>
 (if a2 ≤ 0 then
 some ((0 : Int32), (pt S v0 14 (((S.1 v0 14) * (1103515245 : Int32)) + (12345 : Int32))))
 else
 (if a2 = 0 then none else
 bnd (f_X5_at (pt S v0 14 (((S.1 v0 14) * (1103515245 : Int32)) + (12345 : Int32))) (v0 + 6) v1) (fun a6 =>
 (if a6 ≤ ((((pt S v0 14 (((S.1 v0 14) * (1103515245 : Int32)) + (12345 : Int32))).1 v0 14).toUInt32 >>> ((8 : Int32).toUInt32 &&& Int32.toUInt32 31)).toInt32 - (((pt S v0 14 (((S.1 v0 14) * (1103515245 : Int32)) + (12345 : Int32))).1 v0 14).toUInt32 >>> ((8 : Int32).toUInt32 &&& Int32.toUInt32 31)).toInt32 / a2 * a2) then
 some ((0 : Int32), (pt S v0 14 (((S.1 v0 14) * (1103515245 : Int32)) + (12345 : Int32))))
 else
 some ((1 : Int32), (pt S v0 14 (((S.1 v0 14) * (1103515245 : Int32)) + (12345 : Int32)))))))))
set_option maxRecDepth 20000 in
theorem v_X9_nextComes_e {ε : eT} {κ : kT} (C : Act ε κ cX9_nextComes 3 RX9 2) {S : St} {res : (Int32 × St)} (X : RI ε κ (some .boolean) (some (.int res.1)) res.2) {v0 : Nat} {v1 : Int32} (h0 : sh v0 = 9) (h : f_X9_nextComes S v0 v1 = some res) : V ε κ 3 0 [(0, .ref (eA ε v0)), (1, .int v1)] [] (wsOf ε S) 0 0 := by
  unfold f_X9_nextComes at h
  refine V_aload_n C 0 dX9_nextComes_0 rfl rfl ?_
  refine V_aload_n C 0 dX9_nextComes_1 rfl rfl ?_
  refine G_X9_z (q := v0) C h0 q_FL_X9_70 dX9_nextComes_2 ?_
  refine V_ldc C q_K_X9_186 dX9_nextComes_5 ?_
  refine V_imul C dX9_nextComes_7 ?_
  refine V_sipush C dX9_nextComes_8 kc_s_12345 ?_
  refine V_iadd C dX9_nextComes_11 ?_
  refine P_X9_z (q := v0) C h0 q_FL_X9_70 dX9_nextComes_12 ?_
  refine V_aload_n C 0 dX9_nextComes_15 rfl rfl ?_
  refine G_X9_people (q := v0) C h0 q_FL_X9_12 dX9_nextComes_16 ?_
  refine G_X3_outOf (q := (v0 + 1)) C (so_9_1 h0) q_FL_X9_187 dX9_nextComes_19 ?_
  refine V_iload_n C 1 dX9_nextComes_22 rfl rfl ?_
  obtain ⟨a2, e1, h⟩ := bnd_s h
  refine W_callvi C cf_X5_at (c_X5_at (so_9_8 h0) e1) q_ML_X9_106 (ws_X5 (so_9_8 h0)) rfl dX9_nextComes_23 (by decide) rfl rfl (Nat.le_of_ble_eq_true rfl) ?_
  refine V_istore_n (lv' := [(2, .int a2), (0, .ref (eA ε v0)), (1, .int v1)]) C dX9_nextComes_26 rfl (by decide) rfl ?_
  refine V_iload_n C 0 dX9_nextComes_27 rfl rfl ?_
  refine V_if_le C dX9_nextComes_28 rfl (fun c3 => ?_) (fun c3 => ?_)
  · replace h := ifp c3 h
    refine V_iconst C dX9_nextComes_58 kc_i_0 ?_
    exact V_zret C nb_0 X dX9_nextComes_59 ⟨ri_1 h, ri_2 h⟩
  · replace h := ifn c3 h
    refine V_aload_n C 1 dX9_nextComes_31 rfl rfl ?_
    refine G_X9_z (q := v0) C h0 q_FL_X9_70 dX9_nextComes_32 ?_
    refine V_bipush C dX9_nextComes_35 kc_b_8 ?_
    refine V_iushr C dX9_nextComes_37 ?_
    refine V_iload_n C 0 dX9_nextComes_38 rfl rfl ?_
    obtain ⟨g4, h⟩ := gdf h
    refine V_irem C dX9_nextComes_39 g4 ?_
    refine V_aload_n C 1 dX9_nextComes_40 rfl rfl ?_
    refine G_X9_people (q := v0) C h0 q_FL_X9_12 dX9_nextComes_41 ?_
    refine G_X3_chances (q := (v0 + 1)) C (so_9_1 h0) q_FL_X9_190 dX9_nextComes_44 ?_
    refine V_iload_n C 2 dX9_nextComes_47 rfl rfl ?_
    obtain ⟨a6, e5, h⟩ := bnd_s h
    refine W_callvi C cf_X5_at (c_X5_at (so_9_6 h0) e5) q_ML_X9_106 (ws_X5 (so_9_6 h0)) rfl dX9_nextComes_48 (by decide) rfl rfl (Nat.le_of_ble_eq_true rfl) ?_
    refine V_icmp_ge C dX9_nextComes_51 rfl (fun c7 => ?_) (fun c7 => ?_)
    · replace h := ifp c7 h
      refine V_iconst C dX9_nextComes_58 kc_i_0 ?_
      exact V_zret C nb_0 X dX9_nextComes_59 ⟨ri_1 h, ri_2 h⟩
    · replace h := ifn c7 h
      refine V_iconst C dX9_nextComes_54 kc_i_1 ?_
      refine V_goto C dX9_nextComes_55 rfl ?_
      exact V_zret C nb_1 X dX9_nextComes_59 ⟨ri_1 h, ri_2 h⟩
theorem c_X9_nextComes {ε : eT} {S : St} {v0 : Nat} {v1 : Int32} {res : (Int32 × St)} (h0 : sh v0 = 9) (h : f_X9_nextComes S v0 v1 = some res) : CI ε yX9_nextComes cX9_nextComes 3 (some .boolean) 2 [.ref (eA ε v0), .int v1] S (some (.int res.1)) res.2 := CI_of (by decide) (Nat.le_of_ble_eq_true rfl) rfl (fun κ C X => v_X9_nextComes_e C X h0 h)
def f_X3_receive (S : St) (v0 : Nat) (v1 : Int32) (v2 : Int32) : Option St :=
 bnd (f_X5_at S (v0 + 3) v1) (fun a2 =>
 bnd (f_X5_set S (v0 + 3) v1 (if (999999 : Int32) < (a2 + v2) then (999999 : Int32) else (a2 + v2))) (fun S4 =>
 some S4))
set_option maxRecDepth 20000 in
theorem v_X3_receive_e {ε : eT} {κ : kT} (C : Act ε κ cX3_receive 3 RX3 2) {S : St} {res : St} (X : RI ε κ none none res) {v0 : Nat} {v1 : Int32} {v2 : Int32} (h0 : sh v0 = 3) (h : f_X3_receive S v0 v1 v2 = some res) : V ε κ 3 0 [(0, .ref (eA ε v0)), (1, .int v1), (2, .int v2)] [] (wsOf ε S) 0 0 := by
  unfold f_X3_receive at h
  refine V_aload_n C 0 dX3_receive_0 rfl rfl ?_
  refine G_X3_purses (q := v0) C h0 q_FL_X3_20 dX3_receive_1 ?_
  refine V_iload_n C 1 dX3_receive_4 rfl rfl ?_
  refine V_aload_n C 0 dX3_receive_5 rfl rfl ?_
  refine G_X3_purses (q := v0) C h0 q_FL_X3_20 dX3_receive_6 ?_
  refine V_iload_n C 1 dX3_receive_9 rfl rfl ?_
  obtain ⟨a2, e1, h⟩ := bnd_s h
  refine W_callvi C cf_X5_at (c_X5_at (so_3_3 h0) e1) q_ML_X3_36 (ws_X5 (so_3_3 h0)) rfl dX3_receive_10 (by decide) rfl rfl (Nat.le_of_ble_eq_true rfl) ?_
  refine V_iload_n C 2 dX3_receive_13 rfl rfl ?_
  refine V_iadd C dX3_receive_14 ?_
  refine V_ldc C q_K_X3_40 dX3_receive_15 ?_
  refine V_mmin C q_ML_X3_41 (by decide) (Nat.le_of_ble_eq_true rfl) ⟨Nat.zero_le _, Nat.zero_le _⟩ dX3_receive_17 ?_
  obtain ⟨S4, e3, h⟩ := bnd_s h
  refine W_callvn C cf_X5_set (c_X5_set (so_3_3 h0) e3) q_ML_X3_47 (ws_X5 (so_3_3 h0)) rfl dX3_receive_20 (by decide) rfl rfl (Nat.le_of_ble_eq_true rfl) ?_
  exact V_vret C X dX3_receive_23 ⟨rfl, rv_2 h⟩
theorem c_X3_receive {ε : eT} {S : St} {v0 : Nat} {v1 : Int32} {v2 : Int32} {res : St} (h0 : sh v0 = 3) (h : f_X3_receive S v0 v1 v2 = some res) : CI ε yX3_receive cX3_receive 3 none 2 [.ref (eA ε v0), .int v1, .int v2] S none res := CI_of (by decide) (Nat.le_of_ble_eq_true rfl) rfl (fun κ C X => v_X3_receive_e C X h0 h)
def f_X0_sell (S : St) (v0 : Nat) (v1 : Int32) (v2 : Int32) : Option St :=
 bnd (f_X5_at S (v0 + 13) v1) (fun a2 =>
 bnd (f_X5_at S (v0 + 11) v1) (fun a4 =>
 bnd (f_X3_receive S (v0 + 1) a4 a2) (fun S6 =>
 bnd (f_X3_spend S6 (v0 + 1) v2 a2) (fun S8 =>
 bnd (f_X5_set S8 (v0 + 11) v1 v2) (fun S10 =>
 bnd (f_X5_at (pt S10 v0 12 ((S10.1 v0 12) + (1 : Int32))) (v0 + 15) v1) (fun a12 =>
 bnd (f_X5_at (pt S10 v0 12 ((S10.1 v0 12) + (1 : Int32))) (v0 + 27) (1 : Int32)) (fun a14 =>
 bnd (f_X5_set (pt S10 v0 12 ((S10.1 v0 12) + (1 : Int32))) (v0 + 15) v1 (if (a12 - a14) < (0 : Int32) then (0 : Int32) else (a12 - a14))) (fun S16 =>
 some S16))))))))
set_option maxRecDepth 20000 in
theorem v_X0_sell_e {ε : eT} {κ : kT} (C : Act ε κ cX0_sell 5 RX0 3) {S : St} {res : St} (X : RI ε κ none none res) {v0 : Nat} {v1 : Int32} {v2 : Int32} (h0 : sh v0 = 9) (h : f_X0_sell S v0 v1 v2 = some res) : V ε κ 5 0 [(0, .ref (eA ε v0)), (1, .int v1), (2, .int v2)] [] (wsOf ε S) 0 0 := by
  unfold f_X0_sell at h
  refine V_aload_n C 0 dX0_sell_0 rfl rfl ?_
  refine G_X9_things (q := v0) C h0 q_FL_X0_33 dX0_sell_1 ?_
  refine G_X8_prices (q := (v0 + 10)) C (so_9_10 h0) q_FL_X0_43 dX0_sell_4 ?_
  refine V_iload_n C 1 dX0_sell_7 rfl rfl ?_
  obtain ⟨a2, e1, h⟩ := bnd_s h
  refine W_callvi C cf_X5_at (c_X5_at (so_9_13 h0) e1) q_ML_X0_60 (ws_X5 (so_9_13 h0)) rfl dX0_sell_8 (by decide) rfl rfl (Nat.le_of_ble_eq_true rfl) ?_
  refine V_istore_n (lv' := [(3, .int a2), (0, .ref (eA ε v0)), (1, .int v1), (2, .int v2)]) C dX0_sell_11 rfl (by decide) rfl ?_
  refine V_aload_n C 1 dX0_sell_12 rfl rfl ?_
  refine G_X9_people (q := v0) C h0 q_FL_X0_66 dX0_sell_13 ?_
  refine V_aload_n C 1 dX0_sell_16 rfl rfl ?_
  refine G_X9_things (q := v0) C h0 q_FL_X0_33 dX0_sell_17 ?_
  refine G_X8_owners (q := (v0 + 10)) C (so_9_10 h0) q_FL_X0_57 dX0_sell_20 ?_
  refine V_iload_n C 2 dX0_sell_23 rfl rfl ?_
  obtain ⟨a4, e3, h⟩ := bnd_s h
  refine W_callvi C cf_X5_at (c_X5_at (so_9_11 h0) e3) q_ML_X0_60 (ws_X5 (so_9_11 h0)) rfl dX0_sell_24 (by decide) rfl rfl (Nat.le_of_ble_eq_true rfl) ?_
  refine V_iload_n C 0 dX0_sell_27 rfl rfl ?_
  obtain ⟨S6, e5, h⟩ := bnd_s h
  refine W_callvn C cf_X3_receive (c_X3_receive (so_9_1 h0) e5) q_ML_X0_107 (ws_X3 (so_9_1 h0)) rfl dX0_sell_28 (by decide) rfl rfl (Nat.le_of_ble_eq_true rfl) ?_
  refine V_aload_n C 1 dX0_sell_31 rfl rfl ?_
  refine G_X9_people (q := v0) C h0 q_FL_X0_66 dX0_sell_32 ?_
  refine V_iload_n C 3 dX0_sell_35 rfl rfl ?_
  refine V_iload_n C 0 dX0_sell_36 rfl rfl ?_
  obtain ⟨S8, e7, h⟩ := bnd_s h
  refine W_callvn C cf_X3_spend (c_X3_spend (so_9_1 h0) e7) q_ML_X0_81 (ws_X3 (so_9_1 h0)) rfl dX0_sell_37 (by decide) rfl rfl (Nat.le_of_ble_eq_true rfl) ?_
  refine V_aload_n C 1 dX0_sell_40 rfl rfl ?_
  refine G_X9_things (q := v0) C h0 q_FL_X0_33 dX0_sell_41 ?_
  refine G_X8_owners (q := (v0 + 10)) C (so_9_10 h0) q_FL_X0_57 dX0_sell_44 ?_
  refine V_iload_n C 2 dX0_sell_47 rfl rfl ?_
  refine V_iload_n C 3 dX0_sell_48 rfl rfl ?_
  obtain ⟨S10, e9, h⟩ := bnd_s h
  refine W_callvn C cf_X5_set (c_X5_set (so_9_11 h0) e9) q_ML_X0_51 (ws_X5 (so_9_11 h0)) rfl dX0_sell_49 (by decide) rfl rfl (Nat.le_of_ble_eq_true rfl) ?_
  refine V_aload_n C 1 dX0_sell_52 rfl rfl ?_
  refine V_dup C dX0_sell_53 rfl ?_
  refine G_X9_moves (q := v0) C h0 q_FL_X0_110 dX0_sell_54 ?_
  refine V_iconst C dX0_sell_57 kc_i_1 ?_
  refine V_iadd C dX0_sell_58 ?_
  refine P_X9_moves (q := v0) C h0 q_FL_X0_110 dX0_sell_59 ?_
  refine V_aload_n C 1 dX0_sell_62 rfl rfl ?_
  refine G_X9_things (q := v0) C h0 q_FL_X0_33 dX0_sell_63 ?_
  refine G_X8_sounds (q := (v0 + 10)) C (so_9_10 h0) q_FL_X0_113 dX0_sell_66 ?_
  refine V_iload_n C 2 dX0_sell_69 rfl rfl ?_
  obtain ⟨a12, e11, h⟩ := bnd_s h
  refine W_callvi C cf_X5_at (c_X5_at (so_9_15 h0) e11) q_ML_X0_60 (ws_X5 (so_9_15 h0)) rfl dX0_sell_70 (by decide) rfl rfl (Nat.le_of_ble_eq_true rfl) ?_
  refine V_aload_n C 1 dX0_sell_73 rfl rfl ?_
  refine G_X9_rules (q := v0) C h0 q_FL_X0_63 dX0_sell_74 ?_
  refine V_iconst C dX0_sell_77 kc_i_1 ?_
  obtain ⟨a14, e13, h⟩ := bnd_s h
  refine W_callvi C cf_X5_at (c_X5_at (so_9_27 h0) e13) q_ML_X0_60 (ws_X5 (so_9_27 h0)) rfl dX0_sell_78 (by decide) rfl rfl (Nat.le_of_ble_eq_true rfl) ?_
  refine V_isub C dX0_sell_81 ?_
  refine V_istore (lv' := [(4, .int (a12 - a14)), (3, .int a2), (0, .ref (eA ε v0)), (1, .int v1), (2, .int v2)]) C dX0_sell_82 (by decide) rfl ?_
  refine V_aload_n C 2 dX0_sell_84 rfl rfl ?_
  refine G_X9_things (q := v0) C h0 q_FL_X0_33 dX0_sell_85 ?_
  refine G_X8_sounds (q := (v0 + 10)) C (so_9_10 h0) q_FL_X0_113 dX0_sell_88 ?_
  refine V_iload_n C 3 dX0_sell_91 rfl rfl ?_
  refine V_iload C 0 dX0_sell_92 rfl ?_
  refine V_iconst C dX0_sell_94 kc_i_0 ?_
  refine V_mmax C q_ML_X0_116 (by decide) (Nat.le_of_ble_eq_true rfl) ⟨Nat.zero_le _, Nat.zero_le _⟩ dX0_sell_95 ?_
  obtain ⟨S16, e15, h⟩ := bnd_s h
  refine W_callvn C cf_X5_set (c_X5_set (so_9_15 h0) e15) q_ML_X0_51 (ws_X5 (so_9_15 h0)) rfl dX0_sell_98 (by decide) rfl rfl (Nat.le_of_ble_eq_true rfl) ?_
  exact V_vret C X dX0_sell_101 ⟨rfl, rv_2 h⟩
theorem c_X0_sell {ε : eT} {S : St} {v0 : Nat} {v1 : Int32} {v2 : Int32} {res : St} (h0 : sh v0 = 9) (h : f_X0_sell S v0 v1 v2 = some res) : CI ε yX0_sell cX0_sell 5 none 3 [.ref (eA ε v0), .int v1, .int v2] S none res := CI_of (by decide) (Nat.le_of_ble_eq_true rfl) rfl (fun κ C X => v_X0_sell_e C X h0 h)
