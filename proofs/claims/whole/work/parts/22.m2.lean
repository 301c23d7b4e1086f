def f_X6_holds (S : St) (v0 : Nat) (v1 : Int32) (v2 : Int32) : Option Int32 :=
 (if v1 < 0 then
 some (0 : Int32)
 else
 (if v2 < 0 then
 some (0 : Int32)
 else
 bnd (f_X5_size S (v0 + 1)) (fun a4 =>
 (if (a4 - v2) < v1 then
 some (0 : Int32)
 else
 some (1 : Int32)))))
set_option maxRecDepth 20000 in
theorem v_X6_holds_e {ε : eT} {κ : kT} (C : Act ε κ cX6_holds 3 RX6 2) {S : St} {res : Int32} (X : RI ε κ (some .boolean) (some (.int res)) S) {v0 : Nat} {v1 : Int32} {v2 : Int32} (h0 : sh v0 = 6) (h : f_X6_holds S v0 v1 v2 = some res) : V ε κ 3 0 [(0, .ref (eA ε v0)), (1, .int v1), (2, .int v2)] [] (wsOf ε S) 0 0 := by
  unfold f_X6_holds at h
  refine V_iload_n C 1 dX6_holds_0 rfl rfl ?_
  refine V_if_lt C dX6_holds_1 rfl (fun c1 => ?_) (fun c1 => ?_)
  · replace h := ifp c1 h
    refine V_iconst C dX6_holds_25 kc_i_0 ?_
    exact V_zret C nb_0 X dX6_holds_26 ⟨rip_1 h, rfl⟩
  · replace h := ifn c1 h
    refine V_iload_n C 2 dX6_holds_4 rfl rfl ?_
    refine V_if_lt C dX6_holds_5 rfl (fun c2 => ?_) (fun c2 => ?_)
    · replace h := ifp c2 h
      refine V_iconst C dX6_holds_25 kc_i_0 ?_
      exact V_zret C nb_0 X dX6_holds_26 ⟨rip_1 h, rfl⟩
    · replace h := ifn c2 h
      refine V_iload_n C 1 dX6_holds_8 rfl rfl ?_
      refine V_aload_n C 0 dX6_holds_9 rfl rfl ?_
      refine G_X6_numbers (q := v0) C h0 q_FL_X6_14 dX6_holds_10 ?_
      obtain ⟨a4, e3, h⟩ := bnd_s h
      refine W_callvi C cf_X5_size (c_X5_size (so_6_1 h0) e3) q_ML_X6_27 (ws_X5 (so_6_1 h0)) rfl dX6_holds_13 (by decide) rfl rfl (Nat.le_of_ble_eq_true rfl) ?_
      refine V_iload_n C 2 dX6_holds_16 rfl rfl ?_
      refine V_isub C dX6_holds_17 ?_
      refine V_icmp_gt C dX6_holds_18 rfl (fun c5 => ?_) (fun c5 => ?_)
      · replace h := ifp c5 h
        refine V_iconst C dX6_holds_25 kc_i_0 ?_
        exact V_zret C nb_0 X dX6_holds_26 ⟨rip_1 h, rfl⟩
      · replace h := ifn c5 h
        refine V_iconst C dX6_holds_21 kc_i_1 ?_
        refine V_goto C dX6_holds_22 rfl ?_
        exact V_zret C nb_1 X dX6_holds_26 ⟨rip_1 h, rfl⟩
theorem c_X6_holds {ε : eT} {S : St} {v0 : Nat} {v1 : Int32} {v2 : Int32} {res : Int32} (h0 : sh v0 = 6) (h : f_X6_holds S v0 v1 v2 = some res) : CI ε yX6_holds cX6_holds 3 (some .boolean) 2 [.ref (eA ε v0), .int v1, .int v2] S (some (.int res)) S := CI_of (by decide) (Nat.le_of_ble_eq_true rfl) rfl (fun κ C X => v_X6_holds_e C X h0 h)
def f_X6_isMissing (S : St) (v0 : Nat) : Option Int32 :=
 (if (S.1 v0 1) = 0 then
 some (1 : Int32)
 else
 some (0 : Int32))
set_option maxRecDepth 20000 in
theorem v_X6_isMissing_e {ε : eT} {κ : kT} (C : Act ε κ cX6_isMissing 1 RX6 1) {S : St} {res : Int32} (X : RI ε κ (some .boolean) (some (.int res)) S) {v0 : Nat} (h0 : sh v0 = 6) (h : f_X6_isMissing S v0 = some res) : V ε κ 1 0 [(0, .ref (eA ε v0))] [] (wsOf ε S) 0 0 := by
  unfold f_X6_isMissing at h
  refine V_aload_n C 0 dX6_isMissing_0 rfl rfl ?_
  refine G_X6_bits (q := v0) C h0 q_FL_X6_20 dX6_isMissing_1 ?_
  refine V_if_ne C dX6_isMissing_4 rfl (fun c1 => ?_) (fun c1 => ?_)
  · replace h := ifn c1 h
    refine V_iconst C dX6_isMissing_11 kc_i_0 ?_
    exact V_zret C nb_0 X dX6_isMissing_12 ⟨rip_1 h, rfl⟩
  · replace h := ifp c1 h
    refine V_iconst C dX6_isMissing_7 kc_i_1 ?_
    refine V_goto C dX6_isMissing_8 rfl ?_
    exact V_zret C nb_1 X dX6_isMissing_12 ⟨rip_1 h, rfl⟩
theorem c_X6_isMissing {ε : eT} {S : St} {v0 : Nat} {res : Int32} (h0 : sh v0 = 6) (h : f_X6_isMissing S v0 = some res) : CI ε yX6_isMissing cX6_isMissing 1 (some .boolean) 1 [.ref (eA ε v0)] S (some (.int res)) S := CI_of (by decide) (Nat.le_of_ble_eq_true rfl) rfl (fun κ C X => v_X6_isMissing_e C X h0 h)
def f_X6_isWidth_22 (S : St) : Option Int32 :=
 some (1 : Int32)
set_option maxRecDepth 20000 in
theorem v_X6_isWidth_22 {ε : eT} {κ : kT} (C : Act ε κ cX6_isWidth 1 RX6 1) {S : St} {res : Int32} (X : RI ε κ (some .boolean) (some (.int res)) S) (h : f_X6_isWidth_22 S = some res) : V ε κ 1 22 [] [] (wsOf ε S) 0 0 := by
  unfold f_X6_isWidth_22 at h
  refine V_iconst C dX6_isWidth_22 kc_i_1 ?_
  refine V_goto C dX6_isWidth_23 rfl ?_
  exact V_zret C nb_1 X dX6_isWidth_27 ⟨rip_1 h, rfl⟩
def f_X6_isWidth (S : St) (v0 : Int32) : Option Int32 :=
 (if v0 = 0 then
 f_X6_isWidth_22 S
 else
 (if v0 = (8 : Int32) then
 f_X6_isWidth_22 S
 else
 (if v0 = (16 : Int32) then
 f_X6_isWidth_22 S
 else
 (if v0 = (32 : Int32) then
 f_X6_isWidth_22 S
 else
 some (0 : Int32)))))
set_option maxRecDepth 20000 in
theorem v_X6_isWidth_e {ε : eT} {κ : kT} (C : Act ε κ cX6_isWidth 1 RX6 1) {S : St} {res : Int32} (X : RI ε κ (some .boolean) (some (.int res)) S) {v0 : Int32} (h : f_X6_isWidth S v0 = some res) : V ε κ 1 0 [(0, .int v0)] [] (wsOf ε S) 0 0 := by
  unfold f_X6_isWidth at h
  refine V_iload_n C 0 dX6_isWidth_0 rfl rfl ?_
  refine V_if_eq C dX6_isWidth_1 rfl (fun c1 => ?_) (fun c1 => ?_)
  · replace h := ifp c1 h
    refine V_sub C [] rfl ?_
    exact v_X6_isWidth_22 C X h
  · replace h := ifn c1 h
    refine V_iload_n C 0 dX6_isWidth_4 rfl rfl ?_
    refine V_bipush C dX6_isWidth_5 kc_b_8 ?_
    refine V_icmp_eq C dX6_isWidth_7 rfl (fun c2 => ?_) (fun c2 => ?_)
    · replace h := ifp c2 h
      refine V_sub C [] rfl ?_
      exact v_X6_isWidth_22 C X h
    · replace h := ifn c2 h
      refine V_iload_n C 0 dX6_isWidth_10 rfl rfl ?_
      refine V_bipush C dX6_isWidth_11 kc_b_16 ?_
      refine V_icmp_eq C dX6_isWidth_13 rfl (fun c3 => ?_) (fun c3 => ?_)
      · replace h := ifp c3 h
        refine V_sub C [] rfl ?_
        exact v_X6_isWidth_22 C X h
      · replace h := ifn c3 h
        refine V_iload_n C 0 dX6_isWidth_16 rfl rfl ?_
        refine V_bipush C dX6_isWidth_17 kc_b_32 ?_
        refine V_icmp_ne C dX6_isWidth_19 rfl (fun c4 => ?_) (fun c4 => ?_)
        · replace h := ifn c4 h
          refine V_iconst C dX6_isWidth_26 kc_i_0 ?_
          exact V_zret C nb_0 X dX6_isWidth_27 ⟨rip_1 h, rfl⟩
        · replace h := ifp c4 h
          refine V_sub C [] rfl ?_
          exact v_X6_isWidth_22 C X h
theorem c_X6_isWidth {ε : eT} {S : St} {v0 : Int32} {res : Int32} (h : f_X6_isWidth S v0 = some res) : CI ε yX6_isWidth cX6_isWidth 1 (some .boolean) 1 [.int v0] S (some (.int res)) S := CI_of (by decide) (Nat.le_of_ble_eq_true rfl) rfl (fun κ C X => v_X6_isWidth_e C X h)
def f_X6_make_18 (N : Nat) (S : St) (s0 : Int32) (s1 : Nat) : Option St :=
 bnd (f_X5_reset N S s1 s0) (fun S2 =>
 some S2)
set_option maxRecDepth 20000 in
theorem v_X6_make_18 {ε : eT} {κ : kT} {N : Nat} (C : Act ε κ cX6_make 3 RX6 3) {S : St} {res : St} (X : RI ε κ none none res) {s0 : Int32} {s1 : Nat} (hs1 : sh s1 = 5) (h : f_X6_make_18 N S s0 s1 = some res) : V ε κ 3 18 [] [.int s0, .ref (eA ε s1)] (wsOf ε S) 0 0 := by
  unfold f_X6_make_18 at h
  obtain ⟨S2, e1, h⟩ := bnd_s h
  refine W_callvn C cf_X5_reset (c_X5_reset hs1 e1) q_ML_X6_24 (ws_X5 hs1) rfl dX6_make_18 (by decide) rfl rfl (Nat.le_of_ble_eq_true rfl) ?_
  exact V_vret C X dX6_make_21 ⟨rfl, rv_2 h⟩
def f_X6_make (N : Nat) (S : St) (v0 : Nat) (v1 : Int32) (v2 : Int32) : Option St :=
 (if v1 = 0 then
 f_X6_make_18 N (pt S v0 1 v1) (0 : Int32) (v0 + 1)
 else
 f_X6_make_18 N (pt S v0 1 v1) v2 (v0 + 1))
set_option maxRecDepth 20000 in
theorem v_X6_make_e {ε : eT} {κ : kT} {N : Nat} (C : Act ε κ cX6_make 3 RX6 3) {S : St} {res : St} (X : RI ε κ none none res) {v0 : Nat} {v1 : Int32} {v2 : Int32} (h0 : sh v0 = 6) (h : f_X6_make N S v0 v1 v2 = some res) : V ε κ 3 0 [(0, .ref (eA ε v0)), (1, .int v1), (2, .int v2)] [] (wsOf ε S) 0 0 := by
  unfold f_X6_make at h
  refine V_aload_n C 0 dX6_make_0 rfl rfl ?_
  refine V_iload_n C 1 dX6_make_1 rfl rfl ?_
  refine P_X6_bits (q := v0) C h0 q_FL_X6_20 dX6_make_2 ?_
  refine V_aload_n C 0 dX6_make_5 rfl rfl ?_
  refine G_X6_numbers (q := v0) C h0 q_FL_X6_14 dX6_make_6 ?_
  refine V_iload_n C 1 dX6_make_9 rfl rfl ?_
  refine V_if_ne C dX6_make_10 rfl (fun c1 => ?_) (fun c1 => ?_)
  · replace h := ifn c1 h
    refine V_iload_n C 2 dX6_make_17 rfl rfl ?_
    refine V_sub C [] rfl ?_
    exact v_X6_make_18 C X (so_6_1 h0) h
  · replace h := ifp c1 h
    refine V_iconst C dX6_make_13 kc_i_0 ?_
    refine V_goto C dX6_make_14 rfl ?_
    refine V_sub C [] rfl ?_
    exact v_X6_make_18 C X (so_6_1 h0) h
theorem c_X6_make {ε : eT} {N : Nat} {S : St} {v0 : Nat} {v1 : Int32} {v2 : Int32} {res : St} (h0 : sh v0 = 6) (h : f_X6_make N S v0 v1 v2 = some res) : CI ε yX6_make cX6_make 3 none 3 [.ref (eA ε v0), .int v1, .int v2] S none res := CI_of (by decide) (Nat.le_of_ble_eq_true rfl) rfl (fun κ C X => v_X6_make_e C X h0 h)
def f_X6_write_34 (S : St) (s0 : Int32) (s1 : Int32) (s2 : Nat) : Option St :=
 bnd (f_X5_set S s2 s1 s0) (fun S2 =>
 some S2)
set_option maxRecDepth 20000 in
theorem v_X6_write_34 {ε : eT} {κ : kT} (C : Act ε κ cX6_write 3 RX6 2) {S : St} {res : St} (X : RI ε κ none none res) {s0 : Int32} {s1 : Int32} {s2 : Nat} (hs2 : sh s2 = 5) (h : f_X6_write_34 S s0 s1 s2 = some res) : V ε κ 3 34 [] [.int s0, .int s1, .ref (eA ε s2)] (wsOf ε S) 0 0 := by
  unfold f_X6_write_34 at h
  obtain ⟨S2, e1, h⟩ := bnd_s h
  refine W_callvn C cf_X5_set (c_X5_set hs2 e1) q_ML_X6_31 (ws_X5 hs2) rfl dX6_write_34 (by decide) rfl rfl (Nat.le_of_ble_eq_true rfl) ?_
  exact V_vret C X dX6_write_37 ⟨rfl, rv_2 h⟩
def f_X6_write (S : St) (v0 : Nat) (v1 : Int32) (v2 : Int32) : Option St :=
 (if (S.1 v0 1) = (8 : Int32) then
 f_X6_write_34 S ((v2).toInt8.toInt32) v1 (v0 + 1)
 else
 (if (S.1 v0 1) = (16 : Int32) then
 f_X6_write_34 S ((v2).toInt16.toInt32) v1 (v0 + 1)
 else
 f_X6_write_34 S v2 v1 (v0 + 1)))
set_option maxRecDepth 20000 in
theorem v_X6_write_e {ε : eT} {κ : kT} (C : Act ε κ cX6_write 3 RX6 2) {S : St} {res : St} (X : RI ε κ none none res) {v0 : Nat} {v1 : Int32} {v2 : Int32} (h0 : sh v0 = 6) (h : f_X6_write S v0 v1 v2 = some res) : V ε κ 3 0 [(0, .ref (eA ε v0)), (1, .int v1), (2, .int v2)] [] (wsOf ε S) 0 0 := by
  unfold f_X6_write at h
  refine V_aload_n C 0 dX6_write_0 rfl rfl ?_
  refine G_X6_numbers (q := v0) C h0 q_FL_X6_14 dX6_write_1 ?_
  refine V_iload_n C 1 dX6_write_4 rfl rfl ?_
  refine V_aload_n C 0 dX6_write_5 rfl rfl ?_
  refine G_X6_bits (q := v0) C h0 q_FL_X6_20 dX6_write_6 ?_
  refine V_bipush C dX6_write_9 kc_b_8 ?_
  refine V_icmp_ne C dX6_write_11 rfl (fun c1 => ?_) (fun c1 => ?_)
  · replace h := ifn c1 h
    refine V_aload_n C 0 dX6_write_19 rfl rfl ?_
    refine G_X6_bits (q := v0) C h0 q_FL_X6_20 dX6_write_20 ?_
    refine V_bipush C dX6_write_23 kc_b_16 ?_
    refine V_icmp_ne C dX6_write_25 rfl (fun c2 => ?_) (fun c2 => ?_)
    · replace h := ifn c2 h
      refine V_iload_n C 2 dX6_write_33 rfl rfl ?_
      refine V_sub C [] rfl ?_
      exact v_X6_write_34 C X (so_6_1 h0) h
    · replace h := ifp c2 h
      refine V_iload_n C 2 dX6_write_28 rfl rfl ?_
      refine V_i2s C dX6_write_29 ?_
      refine V_goto C dX6_write_30 rfl ?_
      refine V_sub C [] rfl ?_
      exact v_X6_write_34 C X (so_6_1 h0) h
  · replace h := ifp c1 h
    refine V_iload_n C 2 dX6_write_14 rfl rfl ?_
    refine V_i2b C dX6_write_15 ?_
    refine V_goto C dX6_write_16 rfl ?_
    refine V_sub C [] rfl ?_
    exact v_X6_write_34 C X (so_6_1 h0) h
theorem c_X6_write {ε : eT} {S : St} {v0 : Nat} {v1 : Int32} {v2 : Int32} {res : St} (h0 : sh v0 = 6) (h : f_X6_write S v0 v1 v2 = some res) : CI ε yX6_write cX6_write 3 none 2 [.ref (eA ε v0), .int v1, .int v2] S none res := CI_of (by decide) (Nat.le_of_ble_eq_true rfl) rfl (fun κ C X => v_X6_write_e C X h0 h)
def f_X7_forget (N : Nat) (S : St) (v0 : Nat) : Option St :=
 bnd (f_X5_reset N S (v0 + 1) (0 : Int32)) (fun S2 =>
 some S2)
set_option maxRecDepth 20000 in
theorem v_X7_forget_e {ε : eT} {κ : kT} {N : Nat} (C : Act ε κ cX7_forget 1 RX7 3) {S : St} {res : St} (X : RI ε κ none none res) {v0 : Nat} (h0 : sh v0 = 7) (h : f_X7_forget N S v0 = some res) : V ε κ 1 0 [(0, .ref (eA ε v0))] [] (wsOf ε S) 0 0 := by
  unfold f_X7_forget at h
  refine V_aload_n C 0 dX7_forget_0 rfl rfl ?_
  refine G_X7_code (q := v0) C h0 q_FL_X7_14 dX7_forget_1 ?_
  refine V_iconst C dX7_forget_4 kc_i_0 ?_
  obtain ⟨S2, e1, h⟩ := bnd_s h
  refine W_callvn C cf_X5_reset (c_X5_reset (so_7_1 h0) e1) q_ML_X7_23 (ws_X5 (so_7_1 h0)) rfl dX7_forget_5 (by decide) rfl rfl (Nat.le_of_ble_eq_true rfl) ?_
  exact V_vret C X dX7_forget_8 ⟨rfl, rv_2 h⟩
theorem c_X7_forget {ε : eT} {N : Nat} {S : St} {v0 : Nat} {res : St} (h0 : sh v0 = 7) (h : f_X7_forget N S v0 = some res) : CI ε yX7_forget cX7_forget 1 none 3 [.ref (eA ε v0)] S none res := CI_of (by decide) (Nat.le_of_ble_eq_true rfl) rfl (fun κ C X => v_X7_forget_e C X h0 h)
def f_X7_hold (S : St) (v0 : Nat) (v1 : Nat) : Option St :=
 bnd (f_X5_copy S (v0 + 1) v1) (fun S2 =>
 some S2)
set_option maxRecDepth 20000 in
theorem v_X7_hold_e {ε : eT} {κ : kT} (C : Act ε κ cX7_hold 2 RX7 3) {S : St} {res : St} (X : RI ε κ none none res) {v0 : Nat} {v1 : Nat} (h0 : sh v0 = 7) (h1 : sh v1 = 5) (h : f_X7_hold S v0 v1 = some res) : V ε κ 2 0 [(0, .ref (eA ε v0)), (1, .ref (eA ε v1))] [] (wsOf ε S) 0 0 := by
  unfold f_X7_hold at h
  refine V_aload_n C 0 dX7_hold_0 rfl rfl ?_
  refine G_X7_code (q := v0) C h0 q_FL_X7_14 dX7_hold_1 ?_
  refine V_aload_n C 1 dX7_hold_4 rfl rfl ?_
  obtain ⟨S2, e1, h⟩ := bnd_s h
  refine W_callvn C cf_X5_copy (c_X5_copy (so_7_1 h0) h1 e1) q_ML_X7_33 (ws_X5 (so_7_1 h0)) rfl dX7_hold_5 (by decide) rfl rfl (Nat.le_of_ble_eq_true rfl) ?_
  exact V_vret C X dX7_hold_8 ⟨rfl, rv_2 h⟩
theorem c_X7_hold {ε : eT} {S : St} {v0 : Nat} {v1 : Nat} {res : St} (h0 : sh v0 = 7) (h1 : sh v1 = 5) (h : f_X7_hold S v0 v1 = some res) : CI ε yX7_hold cX7_hold 2 none 3 [.ref (eA ε v0), .ref (eA ε v1)] S none res := CI_of (by decide) (Nat.le_of_ble_eq_true rfl) rfl (fun κ C X => v_X7_hold_e C X h0 h1 h)
def f_X8_come (S : St) (v0 : Nat) (v1 : Int32) (v2 : Int32) : Option (Int32 × St) :=
 bnd (f_X5_add S (v0 + 1) v1) (fun S2 =>
 bnd (f_X5_add S2 (v0 + 3) v2) (fun S4 =>
 bnd (f_X5_add S4 (v0 + 5) (100 : Int32)) (fun S6 =>
 bnd (f_X5_add S6 (v0 + 7) (0 : Int32)) (fun S8 =>
 bnd (f_X5_size S8 (v0 + 1)) (fun a10 =>
 some ((a10 - (1 : Int32)), S8))))))
set_option maxRecDepth 20000 in
theorem v_X8_come_e {ε : eT} {κ : kT} (C : Act ε κ cX8_come 3 RX8 2) {S : St} {res : (Int32 × St)} (X : RI ε κ (some .int) (some (.int res.1)) res.2) {v0 : Nat} {v1 : Int32} {v2 : Int32} (h0 : sh v0 = 8) (h : f_X8_come S v0 v1 v2 = some res) : V ε κ 3 0 [(0, .ref (eA ε v0)), (1, .int v1), (2, .int v2)] [] (wsOf ε S) 0 0 := by
  unfold f_X8_come at h
  refine V_aload_n C 0 dX8_come_0 rfl rfl ?_
  refine G_X8_owners (q := v0) C h0 q_FL_X8_14 dX8_come_1 ?_
  refine V_iload_n C 1 dX8_come_4 rfl rfl ?_
  obtain ⟨S2, e1, h⟩ := bnd_s h
  refine W_callvn C cf_X5_add (c_X5_add (so_8_1 h0) e1) q_ML_X8_39 (ws_X5 (so_8_1 h0)) rfl dX8_come_5 (by decide) rfl rfl (Nat.le_of_ble_eq_true rfl) ?_
  refine V_aload_n C 0 dX8_come_8 rfl rfl ?_
  refine G_X8_prices (q := v0) C h0 q_FL_X8_20 dX8_come_9 ?_
  refine V_iload_n C 2 dX8_come_12 rfl rfl ?_
  obtain ⟨S4, e3, h⟩ := bnd_s h
  refine W_callvn C cf_X5_add (c_X5_add (so_8_3 h0) e3) q_ML_X8_39 (ws_X5 (so_8_3 h0)) rfl dX8_come_13 (by decide) rfl rfl (Nat.le_of_ble_eq_true rfl) ?_
  refine V_aload_n C 0 dX8_come_16 rfl rfl ?_
  refine G_X8_sounds (q := v0) C h0 q_FL_X8_23 dX8_come_17 ?_
  refine V_bipush C dX8_come_20 kc_b_100 ?_
  obtain ⟨S6, e5, h⟩ := bnd_s h
  refine W_callvn C cf_X5_add (c_X5_add (so_8_5 h0) e5) q_ML_X8_39 (ws_X5 (so_8_5 h0)) rfl dX8_come_22 (by decide) rfl rfl (Nat.le_of_ble_eq_true rfl) ?_
  refine V_aload_n C 0 dX8_come_25 rfl rfl ?_
  refine G_X8_kept (q := v0) C h0 q_FL_X8_26 dX8_come_26 ?_
  refine V_iconst C dX8_come_29 kc_i_0 ?_
  obtain ⟨S8, e7, h⟩ := bnd_s h
  refine W_callvn C cf_X5_add (c_X5_add (so_8_7 h0) e7) q_ML_X8_39 (ws_X5 (so_8_7 h0)) rfl dX8_come_30 (by decide) rfl rfl (Nat.le_of_ble_eq_true rfl) ?_
  refine V_aload_n C 0 dX8_come_33 rfl rfl ?_
  refine G_X8_owners (q := v0) C h0 q_FL_X8_14 dX8_come_34 ?_
  obtain ⟨a10, e9, h⟩ := bnd_s h
  refine W_callvi C cf_X5_size (c_X5_size (so_8_1 h0) e9) q_ML_X8_35 (ws_X5 (so_8_1 h0)) rfl dX8_come_37 (by decide) rfl rfl (Nat.le_of_ble_eq_true rfl) ?_
  refine V_iconst C dX8_come_40 kc_i_1 ?_
  refine V_isub C dX8_come_41 ?_
  exact V_iret C X dX8_come_42 ⟨ri_1 h, ri_2 h⟩
theorem c_X8_come {ε : eT} {S : St} {v0 : Nat} {v1 : Int32} {v2 : Int32} {res : (Int32 × St)} (h0 : sh v0 = 8) (h : f_X8_come S v0 v1 v2 = some res) : CI ε yX8_come cX8_come 3 (some .int) 2 [.ref (eA ε v0), .int v1, .int v2] S (some (.int res.1)) res.2 := CI_of (by decide) (Nat.le_of_ble_eq_true rfl) rfl (fun κ C X => v_X8_come_e C X h0 h)
def f_X8_copy (S : St) (v0 : Nat) (v1 : Nat) : Option St :=
 bnd (f_X5_copy S (v0 + 1) (v1 + 1)) (fun S2 =>
 bnd (f_X5_copy S2 (v0 + 3) (v1 + 3)) (fun S4 =>
 bnd (f_X5_copy S4 (v0 + 5) (v1 + 5)) (fun S6 =>
 bnd (f_X5_copy S6 (v0 + 7) (v1 + 7)) (fun S8 =>
 bnd (f_X5_copy S8 (v0 + 9) (v1 + 9)) (fun S10 =>
 some S10)))))
set_option maxRecDepth 20000 in
theorem v_X8_copy_e {ε : eT} {κ : kT} (C : Act ε κ cX8_copy 2 RX8 3) {S : St} {res : St} (X : RI ε κ none none res) {v0 : Nat} {v1 : Nat} (h0 : sh v0 = 8) (h1 : sh v1 = 8) (h : f_X8_copy S v0 v1 = some res) : V ε κ 2 0 [(0, .ref (eA ε v0)), (1, .ref (eA ε v1))] [] (wsOf ε S) 0 0 := by
  unfold f_X8_copy at h
  refine V_aload_n C 0 dX8_copy_0 rfl rfl ?_
  refine G_X8_owners (q := v0) C h0 q_FL_X8_14 dX8_copy_1 ?_
  refine V_aload_n C 1 dX8_copy_4 rfl rfl ?_
  refine G_X8_owners (q := v1) C h1 q_FL_X8_14 dX8_copy_5 ?_
  obtain ⟨S2, e1, h⟩ := bnd_s h
  refine W_callvn C cf_X5_copy (c_X5_copy (so_8_1 h0) (so_8_1 h1) e1) q_ML_X8_53 (ws_X5 (so_8_1 h0)) rfl dX8_copy_8 (by decide) rfl rfl (Nat.le_of_ble_eq_true rfl) ?_
  refine V_aload_n C 0 dX8_copy_11 rfl rfl ?_
  refine G_X8_prices (q := v0) C h0 q_FL_X8_20 dX8_copy_12 ?_
  refine V_aload_n C 1 dX8_copy_15 rfl rfl ?_
  refine G_X8_prices (q := v1) C h1 q_FL_X8_20 dX8_copy_16 ?_
  obtain ⟨S4, e3, h⟩ := bnd_s h
  refine W_callvn C cf_X5_copy (c_X5_copy (so_8_3 h0) (so_8_3 h1) e3) q_ML_X8_53 (ws_X5 (so_8_3 h0)) rfl dX8_copy_19 (by decide) rfl rfl (Nat.le_of_ble_eq_true rfl) ?_
  refine V_aload_n C 0 dX8_copy_22 rfl rfl ?_
  refine G_X8_sounds (q := v0) C h0 q_FL_X8_23 dX8_copy_23 ?_
  refine V_aload_n C 1 dX8_copy_26 rfl rfl ?_
  refine G_X8_sounds (q := v1) C h1 q_FL_X8_23 dX8_copy_27 ?_
  obtain ⟨S6, e5, h⟩ := bnd_s h
  refine W_callvn C cf_X5_copy (c_X5_copy (so_8_5 h0) (so_8_5 h1) e5) q_ML_X8_53 (ws_X5 (so_8_5 h0)) rfl dX8_copy_30 (by decide) rfl rfl (Nat.le_of_ble_eq_true rfl) ?_
  refine V_aload_n C 0 dX8_copy_33 rfl rfl ?_
  refine G_X8_kept (q := v0) C h0 q_FL_X8_26 dX8_copy_34 ?_
  refine V_aload_n C 1 dX8_copy_37 rfl rfl ?_
  refine G_X8_kept (q := v1) C h1 q_FL_X8_26 dX8_copy_38 ?_
  obtain ⟨S8, e7, h⟩ := bnd_s h
  refine W_callvn C cf_X5_copy (c_X5_copy (so_8_7 h0) (so_8_7 h1) e7) q_ML_X8_53 (ws_X5 (so_8_7 h0)) rfl dX8_copy_41 (by decide) rfl rfl (Nat.le_of_ble_eq_true rfl) ?_
  refine V_aload_n C 0 dX8_copy_44 rfl rfl ?_
  refine G_X8_worthRows (q := v0) C h0 q_FL_X8_29 dX8_copy_45 ?_
  refine V_aload_n C 1 dX8_copy_48 rfl rfl ?_
  refine G_X8_worthRows (q := v1) C h1 q_FL_X8_29 dX8_copy_49 ?_
  obtain ⟨S10, e9, h⟩ := bnd_s h
  refine W_callvn C cf_X5_copy (c_X5_copy (so_8_9 h0) (so_8_9 h1) e9) q_ML_X8_53 (ws_X5 (so_8_9 h0)) rfl dX8_copy_52 (by decide) rfl rfl (Nat.le_of_ble_eq_true rfl) ?_
  exact V_vret C X dX8_copy_55 ⟨rfl, rv_2 h⟩
theorem c_X8_copy {ε : eT} {S : St} {v0 : Nat} {v1 : Nat} {res : St} (h0 : sh v0 = 8) (h1 : sh v1 = 8) (h : f_X8_copy S v0 v1 = some res) : CI ε yX8_copy cX8_copy 2 none 3 [.ref (eA ε v0), .ref (eA ε v1)] S none res := CI_of (by decide) (Nat.le_of_ble_eq_true rfl) rfl (fun κ C X => v_X8_copy_e C X h0 h1 h)
def f_X8_keptBy_40 (N : Nat) (S : St) (K4 : Nat → Int32 → Int32 → Int32 → Option Int32) (v0 : Nat) (v1 : Int32) (v3 : Int32) (s0 : Int32) (s1 : Int32) : Option Int32 :=
 K4 v0 v1 (s1 + s0) (v3 + 1)
set_option maxRecDepth 20000 in
theorem v_X8_keptBy_40 {ε : eT} {κ : kT} {N : Nat} (C : Act ε κ cX8_keptBy 4 RX8 2) {S : St} {res : Int32} (X : RI ε κ (some .int) (some (.int res)) S) {K4 : Nat → Int32 → Int32 → Int32 → Option Int32} (hK4 : ∀ (v0 : Nat) (v1 : Int32) (v2 : Int32) (v3 : Int32) (_ : sh v0 = 8), K4 v0 v1 v2 v3 = some res → V ε κ 4 4 [(0, .ref (eA ε v0)), (1, .int v1), (2, .int v2), (3, .int v3)] [] (wsOf ε S) 0 0) {v0 : Nat} {v1 : Int32} {v3 : Int32} {s0 : Int32} {s1 : Int32} (h0 : sh v0 = 8) (h : f_X8_keptBy_40 N S K4 v0 v1 v3 s0 s1 = some res) : V ε κ 4 40 [(0, .ref (eA ε v0)), (1, .int v1), (3, .int v3)] [.int s0, .int s1] (wsOf ε S) 0 0 := by
  unfold f_X8_keptBy_40 at h
  refine V_iadd C dX8_keptBy_40 ?_
  refine V_istore_n (lv' := [(2, .int (s1 + s0)), (0, .ref (eA ε v0)), (1, .int v1), (3, .int v3)]) C dX8_keptBy_41 rfl (by decide) rfl ?_
  refine V_iinc (v := (v3 + 1)) (lv' := [(3, .int (v3 + 1)), (2, .int (s1 + s0)), (0, .ref (eA ε v0)), (1, .int v1)]) C 3 dX8_keptBy_42 rfl (congrArg _ kc_i_1) (by decide) rfl ?_
  refine V_goto C dX8_keptBy_45 rfl ?_
  refine V_sub C [2, 3, 1, 0] rfl ?_
  exact hK4 _ _ _ _ h0 h
def f_X8_keptBy_4 (N : Nat) (S : St) : Nat → Nat → Int32 → Int32 → Int32 → Option Int32
  | 0, _, _, _, _ => none
  | n + 1, v0, v1, v2, v3 =>
    bnd (f_X5_size S (v0 + 1)) (fun a2 =>
     (if a2 ≤ v3 then
     some v2
     else
     bnd (f_X5_at S (v0 + 1) v3) (fun a5 =>
     (if a5 = v1 then
     bnd (f_X5_at S (v0 + 7) v3) (fun a8 =>
     f_X8_keptBy_40 N S (f_X8_keptBy_4 N S n) v0 v1 v3 a8 v2)
     else
     f_X8_keptBy_40 N S (f_X8_keptBy_4 N S n) v0 v1 v3 (0 : Int32) v2))))
set_option maxRecDepth 20000 in
theorem v_X8_keptBy_4 {ε : eT} {κ : kT} {N : Nat} (C : Act ε κ cX8_keptBy 4 RX8 2) {S : St} {res : Int32} (X : RI ε κ (some .int) (some (.int res)) S) : ∀ (n : Nat) (v0 : Nat) (v1 : Int32) (v2 : Int32) (v3 : Int32) (h0 : sh v0 = 8) (h : f_X8_keptBy_4 N S n v0 v1 v2 v3 = some res), V ε κ 4 4 [(0, .ref (eA ε v0)), (1, .int v1), (2, .int v2), (3, .int v3)] [] (wsOf ε S) 0 0 := by
  intro n
  induction n with
  | zero => intro v0 v1 v2 v3 h0 h; cases h
  | succ n ih =>
    intro v0 v1 v2 v3 h0 h
    rw [f_X8_keptBy_4] at h
    refine V_iload_n C 3 dX8_keptBy_4 rfl rfl ?_
    refine V_aload_n C 0 dX8_keptBy_5 rfl rfl ?_
    refine G_X8_owners (q := v0) C h0 q_FL_X8_14 dX8_keptBy_6 ?_
    obtain ⟨a2, e1, h⟩ := bnd_s h
    refine W_callvi C cf_X5_size (c_X5_size (so_8_1 h0) e1) q_ML_X8_35 (ws_X5 (so_8_1 h0)) rfl dX8_keptBy_9 (by decide) rfl rfl (Nat.le_of_ble_eq_true rfl) ?_
    refine V_icmp_ge C dX8_keptBy_12 rfl (fun c3 => ?_) (fun c3 => ?_)
    · replace h := ifp c3 h
      refine V_iload_n C 2 dX8_keptBy_48 rfl rfl ?_
      exact V_iret C X dX8_keptBy_49 ⟨rip_1 h, rfl⟩
    · replace h := ifn c3 h
      refine V_iload_n C 2 dX8_keptBy_15 rfl rfl ?_
      refine V_aload_n C 0 dX8_keptBy_16 rfl rfl ?_
      refine G_X8_owners (q := v0) C h0 q_FL_X8_14 dX8_keptBy_17 ?_
      refine V_iload_n C 3 dX8_keptBy_20 rfl rfl ?_
      obtain ⟨a5, e4, h⟩ := bnd_s h
      refine W_callvi C cf_X5_at (c_X5_at (so_8_1 h0) e4) q_ML_X8_46 (ws_X5 (so_8_1 h0)) rfl dX8_keptBy_21 (by decide) rfl rfl (Nat.le_of_ble_eq_true rfl) ?_
      refine V_iload_n C 1 dX8_keptBy_24 rfl rfl ?_
      refine V_icmp_ne C dX8_keptBy_25 rfl (fun c6 => ?_) (fun c6 => ?_)
      · replace h := ifn c6 h
        refine V_iconst C dX8_keptBy_39 kc_i_0 ?_
        refine V_sub C [0, 1, 3] rfl ?_
        exact v_X8_keptBy_40 C X ih h0 h
      · replace h := ifp c6 h
        refine V_aload_n C 0 dX8_keptBy_28 rfl rfl ?_
        refine G_X8_kept (q := v0) C h0 q_FL_X8_26 dX8_keptBy_29 ?_
        refine V_iload_n C 3 dX8_keptBy_32 rfl rfl ?_
        obtain ⟨a8, e7, h⟩ := bnd_s h
        refine W_callvi C cf_X5_at (c_X5_at (so_8_7 h0) e7) q_ML_X8_46 (ws_X5 (so_8_7 h0)) rfl dX8_keptBy_33 (by decide) rfl rfl (Nat.le_of_ble_eq_true rfl) ?_
        refine V_goto C dX8_keptBy_36 rfl ?_
        refine V_sub C [0, 1, 3] rfl ?_
        exact v_X8_keptBy_40 C X ih h0 h
def f_X8_keptBy (N : Nat) (S : St) (v0 : Nat) (v1 : Int32) : Option Int32 :=
 f_X8_keptBy_4 N S N v0 v1 (0 : Int32) (0 : Int32)
set_option maxRecDepth 20000 in
theorem v_X8_keptBy_e {ε : eT} {κ : kT} {N : Nat} (C : Act ε κ cX8_keptBy 4 RX8 2) {S : St} {res : Int32} (X : RI ε κ (some .int) (some (.int res)) S) {v0 : Nat} {v1 : Int32} (h0 : sh v0 = 8) (h : f_X8_keptBy N S v0 v1 = some res) : V ε κ 4 0 [(0, .ref (eA ε v0)), (1, .int v1)] [] (wsOf ε S) 0 0 := by
  unfold f_X8_keptBy at h
  refine V_iconst C dX8_keptBy_0 kc_i_0 ?_
  refine V_istore_n (lv' := [(2, .int (0 : Int32)), (0, .ref (eA ε v0)), (1, .int v1)]) C dX8_keptBy_1 rfl (by decide) rfl ?_
  refine V_iconst C dX8_keptBy_2 kc_i_0 ?_
  refine V_istore_n (lv' := [(3, .int (0 : Int32)), (2, .int (0 : Int32)), (0, .ref (eA ε v0)), (1, .int v1)]) C dX8_keptBy_3 rfl (by decide) rfl ?_
  refine V_sub C [2, 3, 1, 0] rfl ?_
  exact v_X8_keptBy_4 C X N _ _ _ _ h0 h
theorem c_X8_keptBy {ε : eT} {N : Nat} {S : St} {v0 : Nat} {v1 : Int32} {res : Int32} (h0 : sh v0 = 8) (h : f_X8_keptBy N S v0 v1 = some res) : CI ε yX8_keptBy cX8_keptBy 4 (some .int) 2 [.ref (eA ε v0), .int v1] S (some (.int res)) S := CI_of (by decide) (Nat.le_of_ble_eq_true rfl) rfl (fun κ C X => v_X8_keptBy_e C X h0 h)
def f_X8_ownedBy_33 (N : Nat) (S : St) (K4 : Nat → Int32 → Int32 → Int32 → Option Int32) (v0 : Nat) (v1 : Int32) (v3 : Int32) (s0 : Int32) (s1 : Int32) : Option Int32 :=
 K4 v0 v1 (s1 + s0) (v3 + 1)
set_option maxRecDepth 20000 in
theorem v_X8_ownedBy_33 {ε : eT} {κ : kT} {N : Nat} (C : Act ε κ cX8_ownedBy 4 RX8 2) {S : St} {res : Int32} (X : RI ε κ (some .int) (some (.int res)) S) {K4 : Nat → Int32 → Int32 → Int32 → Option Int32} (hK4 : ∀ (v0 : Nat) (v1 : Int32) (v2 : Int32) (v3 : Int32) (_ : sh v0 = 8), K4 v0 v1 v2 v3 = some res → V ε κ 4 4 [(0, .ref (eA ε v0)), (1, .int v1), (2, .int v2), (3, .int v3)] [] (wsOf ε S) 0 0) {v0 : Nat} {v1 : Int32} {v3 : Int32} {s0 : Int32} {s1 : Int32} (h0 : sh v0 = 8) (h : f_X8_ownedBy_33 N S K4 v0 v1 v3 s0 s1 = some res) : V ε κ 4 33 [(0, .ref (eA ε v0)), (1, .int v1), (3, .int v3)] [.int s0, .int s1] (wsOf ε S) 0 0 := by
  unfold f_X8_ownedBy_33 at h
  refine V_iadd C dX8_ownedBy_33 ?_
  refine V_istore_n (lv' := [(2, .int (s1 + s0)), (0, .ref (eA ε v0)), (1, .int v1), (3, .int v3)]) C dX8_ownedBy_34 rfl (by decide) rfl ?_
  refine V_iinc (v := (v3 + 1)) (lv' := [(3, .int (v3 + 1)), (2, .int (s1 + s0)), (0, .ref (eA ε v0)), (1, .int v1)]) C 3 dX8_ownedBy_35 rfl (congrArg _ kc_i_1) (by decide) rfl ?_
  refine V_goto C dX8_ownedBy_38 rfl ?_
  refine V_sub C [2, 3, 1, 0] rfl ?_
  exact hK4 _ _ _ _ h0 h
def f_X8_ownedBy_4 (N : Nat) (S : St) : Nat → Nat → Int32 → Int32 → Int32 → Option Int32
  | 0, _, _, _, _ => none
  | n + 1, v0, v1, v2, v3 =>
    bnd (f_X5_size S (v0 + 1)) (fun a2 =>
     (if a2 ≤ v3 then
     some v2
     else
     bnd (f_X5_at S (v0 + 1) v3) (fun a5 =>
     (if a5 = v1 then
     f_X8_ownedBy_33 N S (f_X8_ownedBy_4 N S n) v0 v1 v3 (1 : Int32) v2
     else
     f_X8_ownedBy_33 N S (f_X8_ownedBy_4 N S n) v0 v1 v3 (0 : Int32) v2))))
set_option maxRecDepth 20000 in
theorem v_X8_ownedBy_4 {ε : eT} {κ : kT} {N : Nat} (C : Act ε κ cX8_ownedBy 4 RX8 2) {S : St} {res : Int32} (X : RI ε κ (some .int) (some (.int res)) S) : ∀ (n : Nat) (v0 : Nat) (v1 : Int32) (v2 : Int32) (v3 : Int32) (h0 : sh v0 = 8) (h : f_X8_ownedBy_4 N S n v0 v1 v2 v3 = some res), V ε κ 4 4 [(0, .ref (eA ε v0)), (1, .int v1), (2, .int v2), (3, .int v3)] [] (wsOf ε S) 0 0 := by
  intro n
  induction n with
  | zero => intro v0 v1 v2 v3 h0 h; cases h
  | succ n ih =>
    intro v0 v1 v2 v3 h0 h
    rw [f_X8_ownedBy_4] at h
    refine V_iload_n C 3 dX8_ownedBy_4 rfl rfl ?_
    refine V_aload_n C 0 dX8_ownedBy_5 rfl rfl ?_
    refine G_X8_owners (q := v0) C h0 q_FL_X8_14 dX8_ownedBy_6 ?_
    obtain ⟨a2, e1, h⟩ := bnd_s h
    refine W_callvi C cf_X5_size (c_X5_size (so_8_1 h0) e1) q_ML_X8_35 (ws_X5 (so_8_1 h0)) rfl dX8_ownedBy_9 (by decide) rfl rfl (Nat.le_of_ble_eq_true rfl) ?_
    refine V_icmp_ge C dX8_ownedBy_12 rfl (fun c3 => ?_) (fun c3 => ?_)
    · replace h := ifp c3 h
      refine V_iload_n C 2 dX8_ownedBy_41 rfl rfl ?_
      exact V_iret C X dX8_ownedBy_42 ⟨rip_1 h, rfl⟩
    · replace h := ifn c3 h
      refine V_iload_n C 2 dX8_ownedBy_15 rfl rfl ?_
      refine V_aload_n C 0 dX8_ownedBy_16 rfl rfl ?_
      refine G_X8_owners (q := v0) C h0 q_FL_X8_14 dX8_ownedBy_17 ?_
      refine V_iload_n C 3 dX8_ownedBy_20 rfl rfl ?_
      obtain ⟨a5, e4, h⟩ := bnd_s h
      refine W_callvi C cf_X5_at (c_X5_at (so_8_1 h0) e4) q_ML_X8_46 (ws_X5 (so_8_1 h0)) rfl dX8_ownedBy_21 (by decide) rfl rfl (Nat.le_of_ble_eq_true rfl) ?_
      refine V_iload_n C 1 dX8_ownedBy_24 rfl rfl ?_
      refine V_icmp_ne C dX8_ownedBy_25 rfl (fun c6 => ?_) (fun c6 => ?_)
      · replace h := ifn c6 h
        refine V_iconst C dX8_ownedBy_32 kc_i_0 ?_
        refine V_sub C [0, 1, 3] rfl ?_
        exact v_X8_ownedBy_33 C X ih h0 h
      · replace h := ifp c6 h
        refine V_iconst C dX8_ownedBy_28 kc_i_1 ?_
        refine V_goto C dX8_ownedBy_29 rfl ?_
        refine V_sub C [0, 1, 3] rfl ?_
        exact v_X8_ownedBy_33 C X ih h0 h
def f_X8_ownedBy (N : Nat) (S : St) (v0 : Nat) (v1 : Int32) : Option Int32 :=
 f_X8_ownedBy_4 N S N v0 v1 (0 : Int32) (0 : Int32)
set_option maxRecDepth 20000 in
theorem v_X8_ownedBy_e {ε : eT} {κ : kT} {N : Nat} (C : Act ε κ cX8_ownedBy 4 RX8 2) {S : St} {res : Int32} (X : RI ε κ (some .int) (some (.int res)) S) {v0 : Nat} {v1 : Int32} (h0 : sh v0 = 8) (h : f_X8_ownedBy N S v0 v1 = some res) : V ε κ 4 0 [(0, .ref (eA ε v0)), (1, .int v1)] [] (wsOf ε S) 0 0 := by
  unfold f_X8_ownedBy at h
  refine V_iconst C dX8_ownedBy_0 kc_i_0 ?_
  refine V_istore_n (lv' := [(2, .int (0 : Int32)), (0, .ref (eA ε v0)), (1, .int v1)]) C dX8_ownedBy_1 rfl (by decide) rfl ?_
  refine V_iconst C dX8_ownedBy_2 kc_i_0 ?_
  refine V_istore_n (lv' := [(3, .int (0 : Int32)), (2, .int (0 : Int32)), (0, .ref (eA ε v0)), (1, .int v1)]) C dX8_ownedBy_3 rfl (by decide) rfl ?_
  refine V_sub C [2, 3, 1, 0] rfl ?_
  exact v_X8_ownedBy_4 C X N _ _ _ _ h0 h
theorem c_X8_ownedBy {ε : eT} {N : Nat} {S : St} {v0 : Nat} {v1 : Int32} {res : Int32} (h0 : sh v0 = 8) (h : f_X8_ownedBy N S v0 v1 = some res) : CI ε yX8_ownedBy cX8_ownedBy 4 (some .int) 2 [.ref (eA ε v0), .int v1] S (some (.int res)) S := CI_of (by decide) (Nat.le_of_ble_eq_true rfl) rfl (fun κ C X => v_X8_ownedBy_e C X h0 h)
def f_X8_setWorth (S : St) (v0 : Nat) (v1 : Int32) (v2 : Int32) (v3 : Int32) : Option (Int32 × St) :=
 bnd2 (f_X5_swap S (v0 + 9) ((v1 * (12 : Int32)) + v2) v3) (fun a2 S3 =>
 some (a2, S3))
set_option maxRecDepth 20000 in
theorem v_X8_setWorth_e {ε : eT} {κ : kT} (C : Act ε κ cX8_setWorth 4 RX8 3) {S : St} {res : (Int32 × St)} (X : RI ε κ (some .int) (some (.int res.1)) res.2) {v0 : Nat} {v1 : Int32} {v2 : Int32} {v3 : Int32} (h0 : sh v0 = 8) (h : f_X8_setWorth S v0 v1 v2 v3 = some res) : V ε κ 4 0 [(0, .ref (eA ε v0)), (1, .int v1), (2, .int v2), (3, .int v3)] [] (wsOf ε S) 0 0 := by
  unfold f_X8_setWorth at h
  refine V_aload_n C 0 dX8_setWorth_0 rfl rfl ?_
  refine G_X8_worthRows (q := v0) C h0 q_FL_X8_29 dX8_setWorth_1 ?_
  refine V_iload_n C 1 dX8_setWorth_4 rfl rfl ?_
  refine V_bipush C dX8_setWorth_5 kc_b_12 ?_
  refine V_imul C dX8_setWorth_7 ?_
  refine V_iload_n C 2 dX8_setWorth_8 rfl rfl ?_
  refine V_iadd C dX8_setWorth_9 ?_
  refine V_iload_n C 3 dX8_setWorth_10 rfl rfl ?_
  obtain ⟨a2, S3, e1, h⟩ := bnd2_s h
  refine W_callvi C cf_X5_swap (c_X5_swap (so_8_9 h0) e1) q_ML_X8_42 (ws_X5 (so_8_9 h0)) rfl dX8_setWorth_11 (by decide) rfl rfl (Nat.le_of_ble_eq_true rfl) ?_
  exact V_iret C X dX8_setWorth_14 ⟨ri_1 h, ri_2 h⟩
theorem c_X8_setWorth {ε : eT} {S : St} {v0 : Nat} {v1 : Int32} {v2 : Int32} {v3 : Int32} {res : (Int32 × St)} (h0 : sh v0 = 8) (h : f_X8_setWorth S v0 v1 v2 v3 = some res) : CI ε yX8_setWorth cX8_setWorth 4 (some .int) 3 [.ref (eA ε v0), .int v1, .int v2, .int v3] S (some (.int res.1)) res.2 := CI_of (by decide) (Nat.le_of_ble_eq_true rfl) rfl (fun κ C X => v_X8_setWorth_e C X h0 h)
def f_X8_valueOwnedBy_38 (N : Nat) (S : St) (K4 : Nat → Int32 → Int32 → Int32 → Option Int32) (v0 : Nat) (v1 : Int32) (v3 : Int32) (s0 : Int32) (s1 : Int32) : Option Int32 :=
 K4 v0 v1 (s1 + s0) (v3 + 1)
set_option maxRecDepth 20000 in
theorem v_X8_valueOwnedBy_38 {ε : eT} {κ : kT} {N : Nat} (C : Act ε κ cX8_valueOwnedBy 4 RX8 3) {S : St} {res : Int32} (X : RI ε κ (some .int) (some (.int res)) S) {K4 : Nat → Int32 → Int32 → Int32 → Option Int32} (hK4 : ∀ (v0 : Nat) (v1 : Int32) (v2 : Int32) (v3 : Int32) (_ : sh v0 = 8), K4 v0 v1 v2 v3 = some res → V ε κ 4 4 [(0, .ref (eA ε v0)), (1, .int v1), (2, .int v2), (3, .int v3)] [] (wsOf ε S) 0 0) {v0 : Nat} {v1 : Int32} {v3 : Int32} {s0 : Int32} {s1 : Int32} (h0 : sh v0 = 8) (h : f_X8_valueOwnedBy_38 N S K4 v0 v1 v3 s0 s1 = some res) : V ε κ 4 38 [(0, .ref (eA ε v0)), (1, .int v1), (3, .int v3)] [.int s0, .int s1] (wsOf ε S) 0 0 := by
  unfold f_X8_valueOwnedBy_38 at h
  refine V_iadd C dX8_valueOwnedBy_38 ?_
  refine V_istore_n (lv' := [(2, .int (s1 + s0)), (0, .ref (eA ε v0)), (1, .int v1), (3, .int v3)]) C dX8_valueOwnedBy_39 rfl (by decide) rfl ?_
  refine V_iinc (v := (v3 + 1)) (lv' := [(3, .int (v3 + 1)), (2, .int (s1 + s0)), (0, .ref (eA ε v0)), (1, .int v1)]) C 3 dX8_valueOwnedBy_40 rfl (congrArg _ kc_i_1) (by decide) rfl ?_
  refine V_goto C dX8_valueOwnedBy_43 rfl ?_
  refine V_sub C [2, 3, 1, 0] rfl ?_
  exact hK4 _ _ _ _ h0 h
def f_X8_valueOwnedBy_4 (N : Nat) (S : St) : Nat → Nat → Int32 → Int32 → Int32 → Option Int32
  | 0, _, _, _, _ => none
  | n + 1, v0, v1, v2, v3 =>
    bnd (f_X5_size S (v0 + 1)) (fun a2 =>
     (if a2 ≤ v3 then
     some v2
     else
     bnd (f_X5_at S (v0 + 1) v3) (fun a5 =>
     (if a5 = v1 then
     bnd (f_X8_valueOf S v0 v1 v3) (fun a8 =>
     f_X8_valueOwnedBy_38 N S (f_X8_valueOwnedBy_4 N S n) v0 v1 v3 a8 v2)
     else
     f_X8_valueOwnedBy_38 N S (f_X8_valueOwnedBy_4 N S n) v0 v1 v3 (0 : Int32) v2))))
set_option maxRecDepth 20000 in
theorem v_X8_valueOwnedBy_4 {ε : eT} {κ : kT} {N : Nat} (C : Act ε κ cX8_valueOwnedBy 4 RX8 3) {S : St} {res : Int32} (X : RI ε κ (some .int) (some (.int res)) S) : ∀ (n : Nat) (v0 : Nat) (v1 : Int32) (v2 : Int32) (v3 : Int32) (h0 : sh v0 = 8) (h : f_X8_valueOwnedBy_4 N S n v0 v1 v2 v3 = some res), V ε κ 4 4 [(0, .ref (eA ε v0)), (1, .int v1), (2, .int v2), (3, .int v3)] [] (wsOf ε S) 0 0 := by
  intro n
  induction n with
  | zero => intro v0 v1 v2 v3 h0 h; cases h
  | succ n ih =>
    intro v0 v1 v2 v3 h0 h
    rw [f_X8_valueOwnedBy_4] at h
    refine V_iload_n C 3 dX8_valueOwnedBy_4 rfl rfl ?_
    refine V_aload_n C 0 dX8_valueOwnedBy_5 rfl rfl ?_
    refine G_X8_owners (q := v0) C h0 q_FL_X8_14 dX8_valueOwnedBy_6 ?_
    obtain ⟨a2, e1, h⟩ := bnd_s h
    refine W_callvi C cf_X5_size (c_X5_size (so_8_1 h0) e1) q_ML_X8_35 (ws_X5 (so_8_1 h0)) rfl dX8_valueOwnedBy_9 (by decide) rfl rfl (Nat.le_of_ble_eq_true rfl) ?_
    refine V_icmp_ge C dX8_valueOwnedBy_12 rfl (fun c3 => ?_) (fun c3 => ?_)
    · replace h := ifp c3 h
      refine V_iload_n C 2 dX8_valueOwnedBy_46 rfl rfl ?_
      exact V_iret C X dX8_valueOwnedBy_47 ⟨rip_1 h, rfl⟩
    · replace h := ifn c3 h
      refine V_iload_n C 2 dX8_valueOwnedBy_15 rfl rfl ?_
      refine V_aload_n C 0 dX8_valueOwnedBy_16 rfl rfl ?_
      refine G_X8_owners (q := v0) C h0 q_FL_X8_14 dX8_valueOwnedBy_17 ?_
      refine V_iload_n C 3 dX8_valueOwnedBy_20 rfl rfl ?_
      obtain ⟨a5, e4, h⟩ := bnd_s h
      refine W_callvi C cf_X5_at (c_X5_at (so_8_1 h0) e4) q_ML_X8_46 (ws_X5 (so_8_1 h0)) rfl dX8_valueOwnedBy_21 (by decide) rfl rfl (Nat.le_of_ble_eq_true rfl) ?_
      refine V_iload_n C 1 dX8_valueOwnedBy_24 rfl rfl ?_
      refine V_icmp_ne C dX8_valueOwnedBy_25 rfl (fun c6 => ?_) (fun c6 => ?_)
      · replace h := ifn c6 h
        refine V_iconst C dX8_valueOwnedBy_37 kc_i_0 ?_
        refine V_sub C [0, 1, 3] rfl ?_
        exact v_X8_valueOwnedBy_38 C X ih h0 h
      · replace h := ifp c6 h
        refine V_aload_n C 0 dX8_valueOwnedBy_28 rfl rfl ?_
        refine V_iload_n C 1 dX8_valueOwnedBy_29 rfl rfl ?_
        refine V_iload_n C 3 dX8_valueOwnedBy_30 rfl rfl ?_
        obtain ⟨a8, e7, h⟩ := bnd_s h
        refine W_callvi C cf_X8_valueOf (c_X8_valueOf h0 e7) q_ML_X8_50 (ws_X8 h0) rfl dX8_valueOwnedBy_31 (by decide) rfl rfl (Nat.le_of_ble_eq_true rfl) ?_
        refine V_goto C dX8_valueOwnedBy_34 rfl ?_
        refine V_sub C [0, 1, 3] rfl ?_
        exact v_X8_valueOwnedBy_38 C X ih h0 h
def f_X8_valueOwnedBy (N : Nat) (S : St) (v0 : Nat) (v1 : Int32) : Option Int32 :=
 f_X8_valueOwnedBy_4 N S N v0 v1 (0 : Int32) (0 : Int32)
set_option maxRecDepth 20000 in
theorem v_X8_valueOwnedBy_e {ε : eT} {κ : kT} {N : Nat} (C : Act ε κ cX8_valueOwnedBy 4 RX8 3) {S : St} {res : Int32} (X : RI ε κ (some .int) (some (.int res)) S) {v0 : Nat} {v1 : Int32} (h0 : sh v0 = 8) (h : f_X8_valueOwnedBy N S v0 v1 = some res) : V ε κ 4 0 [(0, .ref (eA ε v0)), (1, .int v1)] [] (wsOf ε S) 0 0 := by
  unfold f_X8_valueOwnedBy at h
  refine V_iconst C dX8_valueOwnedBy_0 kc_i_0 ?_
  refine V_istore_n (lv' := [(2, .int (0 : Int32)), (0, .ref (eA ε v0)), (1, .int v1)]) C dX8_valueOwnedBy_1 rfl (by decide) rfl ?_
  refine V_iconst C dX8_valueOwnedBy_2 kc_i_0 ?_
  refine V_istore_n (lv' := [(3, .int (0 : Int32)), (2, .int (0 : Int32)), (0, .ref (eA ε v0)), (1, .int v1)]) C dX8_valueOwnedBy_3 rfl (by decide) rfl ?_
  refine V_sub C [2, 3, 1, 0] rfl ?_
  exact v_X8_valueOwnedBy_4 C X N _ _ _ _ h0 h
theorem c_X8_valueOwnedBy {ε : eT} {N : Nat} {S : St} {v0 : Nat} {v1 : Int32} {res : Int32} (h0 : sh v0 = 8) (h : f_X8_valueOwnedBy N S v0 v1 = some res) : CI ε yX8_valueOwnedBy cX8_valueOwnedBy 4 (some .int) 3 [.ref (eA ε v0), .int v1] S (some (.int res)) S := CI_of (by decide) (Nat.le_of_ble_eq_true rfl) rfl (fun κ C X => v_X8_valueOwnedBy_e C X h0 h)
def f_X9_addPair (S : St) (v0 : Nat) (v1 : Int32) (v2 : Int32) (v3 : Int32) : Option (Int32 × St) :=
 bnd (f_X5_add S (v0 + 21) v1) (fun S2 =>
 bnd (f_X5_add S2 (v0 + 23) v2) (fun S4 =>
 bnd (f_X5_add S4 (v0 + 25) v3) (fun S6 =>
 bnd (f_X5_size S6 (v0 + 25)) (fun a8 =>
 some ((a8 - (1 : Int32)), S6)))))
set_option maxRecDepth 20000 in
theorem v_X9_addPair_e {ε : eT} {κ : kT} (C : Act ε κ cX9_addPair 4 RX9 2) {S : St} {res : (Int32 × St)} (X : RI ε κ (some .int) (some (.int res.1)) res.2) {v0 : Nat} {v1 : Int32} {v2 : Int32} {v3 : Int32} (h0 : sh v0 = 9) (h : f_X9_addPair S v0 v1 v2 v3 = some res) : V ε κ 4 0 [(0, .ref (eA ε v0)), (1, .int v1), (2, .int v2), (3, .int v3)] [] (wsOf ε S) 0 0 := by
  unfold f_X9_addPair at h
  refine V_aload_n C 0 dX9_addPair_0 rfl rfl ?_
  refine G_X9_ones (q := v0) C h0 q_FL_X9_30 dX9_addPair_1 ?_
  refine V_iload_n C 1 dX9_addPair_4 rfl rfl ?_
  obtain ⟨S2, e1, h⟩ := bnd_s h
  refine W_callvn C cf_X5_add (c_X5_add (so_9_21 h0) e1) q_ML_X9_99 (ws_X5 (so_9_21 h0)) rfl dX9_addPair_5 (by decide) rfl rfl (Nat.le_of_ble_eq_true rfl) ?_
  refine V_aload_n C 0 dX9_addPair_8 rfl rfl ?_
  refine G_X9_others (q := v0) C h0 q_FL_X9_34 dX9_addPair_9 ?_
  refine V_iload_n C 2 dX9_addPair_12 rfl rfl ?_
  obtain ⟨S4, e3, h⟩ := bnd_s h
  refine W_callvn C cf_X5_add (c_X5_add (so_9_23 h0) e3) q_ML_X9_99 (ws_X5 (so_9_23 h0)) rfl dX9_addPair_13 (by decide) rfl rfl (Nat.le_of_ble_eq_true rfl) ?_
  refine V_aload_n C 0 dX9_addPair_16 rfl rfl ?_
  refine G_X9_bonuses (q := v0) C h0 q_FL_X9_37 dX9_addPair_17 ?_
  refine V_iload_n C 3 dX9_addPair_20 rfl rfl ?_
  obtain ⟨S6, e5, h⟩ := bnd_s h
  refine W_callvn C cf_X5_add (c_X5_add (so_9_25 h0) e5) q_ML_X9_99 (ws_X5 (so_9_25 h0)) rfl dX9_addPair_21 (by decide) rfl rfl (Nat.le_of_ble_eq_true rfl) ?_
  refine V_aload_n C 0 dX9_addPair_24 rfl rfl ?_
  refine G_X9_bonuses (q := v0) C h0 q_FL_X9_37 dX9_addPair_25 ?_
  obtain ⟨a8, e7, h⟩ := bnd_s h
  refine W_callvi C cf_X5_size (c_X5_size (so_9_25 h0) e7) q_ML_X9_102 (ws_X5 (so_9_25 h0)) rfl dX9_addPair_28 (by decide) rfl rfl (Nat.le_of_ble_eq_true rfl) ?_
  refine V_iconst C dX9_addPair_31 kc_i_1 ?_
  refine V_isub C dX9_addPair_32 ?_
  exact V_iret C X dX9_addPair_33 ⟨ri_1 h, ri_2 h⟩
theorem c_X9_addPair {ε : eT} {S : St} {v0 : Nat} {v1 : Int32} {v2 : Int32} {v3 : Int32} {res : (Int32 × St)} (h0 : sh v0 = 9) (h : f_X9_addPair S v0 v1 v2 v3 = some res) : CI ε yX9_addPair cX9_addPair 4 (some .int) 2 [.ref (eA ε v0), .int v1, .int v2, .int v3] S (some (.int res.1)) res.2 := CI_of (by decide) (Nat.le_of_ble_eq_true rfl) rfl (fun κ C X => v_X9_addPair_e C X h0 h)
def f_X9_bonusOwner_55 (S : St) (v0 : Nat) (v2 : Int32) (v3 : Int32) (s0 : Int32) : Option Int32 :=
 bnd (f_X5_at S (v0 + 11) v2) (fun a2 =>
 (if s0 = 0 then
 some (-1 : Int32)
 else
 bnd (f_X5_at S (v0 + 11) v3) (fun a5 =>
 (if a2 = a5 then
 some a2
 else
 some (-1 : Int32)))))
set_option maxRecDepth 20000 in
theorem v_X9_bonusOwner_55 {ε : eT} {κ : kT} (C : Act ε κ cX9_bonusOwner 6 RX9 2) {S : St} {res : Int32} (X : RI ε κ (some .int) (some (.int res)) S) {v0 : Nat} {v2 : Int32} {v3 : Int32} {s0 : Int32} (h0 : sh v0 = 9) (h : f_X9_bonusOwner_55 S v0 v2 v3 s0 = some res) : V ε κ 6 55 [(0, .ref (eA ε v0)), (2, .int v2), (3, .int v3)] [.int s0] (wsOf ε S) 0 0 := by
  unfold f_X9_bonusOwner_55 at h
  refine V_istore (lv' := [(4, .int s0), (0, .ref (eA ε v0)), (2, .int v2), (3, .int v3)]) C dX9_bonusOwner_55 (by decide) rfl ?_
  refine V_aload_n C 1 dX9_bonusOwner_57 rfl rfl ?_
  refine G_X9_things (q := v0) C h0 q_FL_X9_21 dX9_bonusOwner_58 ?_
  refine G_X8_owners (q := (v0 + 10)) C (so_9_10 h0) q_FL_X9_113 dX9_bonusOwner_61 ?_
  refine V_iload_n C 2 dX9_bonusOwner_64 rfl rfl ?_
  obtain ⟨a2, e1, h⟩ := bnd_s h
  refine W_callvi C cf_X5_at (c_X5_at (so_9_11 h0) e1) q_ML_X9_106 (ws_X5 (so_9_11 h0)) rfl dX9_bonusOwner_65 (by decide) rfl rfl (Nat.le_of_ble_eq_true rfl) ?_
  refine V_istore (lv' := [(5, .int a2), (4, .int s0), (0, .ref (eA ε v0)), (2, .int v2), (3, .int v3)]) C dX9_bonusOwner_68 (by decide) rfl ?_
  refine V_iload C 1 dX9_bonusOwner_70 rfl ?_
  refine V_if_eq C dX9_bonusOwner_72 rfl (fun c3 => ?_) (fun c3 => ?_)
  · replace h := ifp c3 h
    refine V_iconst C dX9_bonusOwner_96 kc_i_m1 ?_
    exact V_iret C X dX9_bonusOwner_97 ⟨rip_1 h, rfl⟩
  · replace h := ifn c3 h
    refine V_iload C 0 dX9_bonusOwner_75 rfl ?_
    refine V_aload_n C 2 dX9_bonusOwner_77 rfl rfl ?_
    refine G_X9_things (q := v0) C h0 q_FL_X9_21 dX9_bonusOwner_78 ?_
    refine G_X8_owners (q := (v0 + 10)) C (so_9_10 h0) q_FL_X9_113 dX9_bonusOwner_81 ?_
    refine V_iload_n C 4 dX9_bonusOwner_84 rfl rfl ?_
    obtain ⟨a5, e4, h⟩ := bnd_s h
    refine W_callvi C cf_X5_at (c_X5_at (so_9_11 h0) e4) q_ML_X9_106 (ws_X5 (so_9_11 h0)) rfl dX9_bonusOwner_85 (by decide) rfl rfl (Nat.le_of_ble_eq_true rfl) ?_
    refine V_icmp_ne C dX9_bonusOwner_88 rfl (fun c6 => ?_) (fun c6 => ?_)
    · replace h := ifn c6 h
      refine V_iconst C dX9_bonusOwner_96 kc_i_m1 ?_
      exact V_iret C X dX9_bonusOwner_97 ⟨rip_1 h, rfl⟩
    · replace h := ifp c6 h
      refine V_iload C 0 dX9_bonusOwner_91 rfl ?_
      refine V_goto C dX9_bonusOwner_93 rfl ?_
      exact V_iret C X dX9_bonusOwner_97 ⟨rip_1 h, rfl⟩
def f_X9_bonusOwner_54 (S : St) (v0 : Nat) (v2 : Int32) (v3 : Int32) : Option Int32 :=
 f_X9_bonusOwner_55 S v0 v2 v3 (0 : Int32)
set_option maxRecDepth 20000 in
theorem v_X9_bonusOwner_54 {ε : eT} {κ : kT} (C : Act ε κ cX9_bonusOwner 6 RX9 2) {S : St} {res : Int32} (X : RI ε κ (some .int) (some (.int res)) S) {v0 : Nat} {v2 : Int32} {v3 : Int32} (h0 : sh v0 = 9) (h : f_X9_bonusOwner_54 S v0 v2 v3 = some res) : V ε κ 6 54 [(0, .ref (eA ε v0)), (2, .int v2), (3, .int v3)] [] (wsOf ε S) 0 0 := by
  unfold f_X9_bonusOwner_54 at h
  refine V_iconst C dX9_bonusOwner_54 kc_i_0 ?_
  exact v_X9_bonusOwner_55 C X h0 h
def f_X9_bonusOwner (S : St) (v0 : Nat) (v1 : Int32) : Option Int32 :=
 bnd (f_X5_at S (v0 + 21) v1) (fun a2 =>
 bnd (f_X5_at S (v0 + 23) v1) (fun a4 =>
 bnd (f_X5_at S (v0 + 15) a2) (fun a6 =>
 (if a6 < (50 : Int32) then
 f_X9_bonusOwner_54 S v0 a2 a4
 else
 bnd (f_X5_at S (v0 + 15) a4) (fun a9 =>
 (if a9 < (50 : Int32) then
 f_X9_bonusOwner_54 S v0 a2 a4
 else
 f_X9_bonusOwner_55 S v0 a2 a4 (1 : Int32)))))))
set_option maxRecDepth 20000 in
theorem v_X9_bonusOwner_e {ε : eT} {κ : kT} (C : Act ε κ cX9_bonusOwner 6 RX9 2) {S : St} {res : Int32} (X : RI ε κ (some .int) (some (.int res)) S) {v0 : Nat} {v1 : Int32} (h0 : sh v0 = 9) (h : f_X9_bonusOwner S v0 v1 = some res) : V ε κ 6 0 [(0, .ref (eA ε v0)), (1, .int v1)] [] (wsOf ε S) 0 0 := by
  unfold f_X9_bonusOwner at h
  refine V_aload_n C 0 dX9_bonusOwner_0 rfl rfl ?_
  refine G_X9_ones (q := v0) C h0 q_FL_X9_30 dX9_bonusOwner_1 ?_
  refine V_iload_n C 1 dX9_bonusOwner_4 rfl rfl ?_
  obtain ⟨a2, e1, h⟩ := bnd_s h
  refine W_callvi C cf_X5_at (c_X5_at (so_9_21 h0) e1) q_ML_X9_106 (ws_X5 (so_9_21 h0)) rfl dX9_bonusOwner_5 (by decide) rfl rfl (Nat.le_of_ble_eq_true rfl) ?_
  refine V_istore_n (lv' := [(2, .int a2), (0, .ref (eA ε v0)), (1, .int v1)]) C dX9_bonusOwner_8 rfl (by decide) rfl ?_
  refine V_aload_n C 1 dX9_bonusOwner_9 rfl rfl ?_
  refine G_X9_others (q := v0) C h0 q_FL_X9_34 dX9_bonusOwner_10 ?_
  refine V_iload_n C 2 dX9_bonusOwner_13 rfl rfl ?_
  obtain ⟨a4, e3, h⟩ := bnd_s h
  refine W_callvi C cf_X5_at (c_X5_at (so_9_23 h0) e3) q_ML_X9_106 (ws_X5 (so_9_23 h0)) rfl dX9_bonusOwner_14 (by decide) rfl rfl (Nat.le_of_ble_eq_true rfl) ?_
  refine V_istore_n (lv' := [(3, .int a4), (2, .int a2), (0, .ref (eA ε v0)), (1, .int v1)]) C dX9_bonusOwner_17 rfl (by decide) rfl ?_
  refine V_aload_n C 2 dX9_bonusOwner_18 rfl rfl ?_
  refine G_X9_things (q := v0) C h0 q_FL_X9_21 dX9_bonusOwner_19 ?_
  refine G_X8_sounds (q := (v0 + 10)) C (so_9_10 h0) q_FL_X9_110 dX9_bonusOwner_22 ?_
  refine V_iload_n C 1 dX9_bonusOwner_25 rfl rfl ?_
  obtain ⟨a6, e5, h⟩ := bnd_s h
  refine W_callvi C cf_X5_at (c_X5_at (so_9_15 h0) e5) q_ML_X9_106 (ws_X5 (so_9_15 h0)) rfl dX9_bonusOwner_26 (by decide) rfl rfl (Nat.le_of_ble_eq_true rfl) ?_
  refine V_bipush C dX9_bonusOwner_29 kc_b_50 ?_
  refine V_icmp_lt C dX9_bonusOwner_31 rfl (fun c7 => ?_) (fun c7 => ?_)
  · replace h := ifp c7 h
    refine V_sub C [2, 1, 0] rfl ?_
    exact v_X9_bonusOwner_54 C X h0 h
  · replace h := ifn c7 h
    refine V_aload_n C 2 dX9_bonusOwner_34 rfl rfl ?_
    refine G_X9_things (q := v0) C h0 q_FL_X9_21 dX9_bonusOwner_35 ?_
    refine G_X8_sounds (q := (v0 + 10)) C (so_9_10 h0) q_FL_X9_110 dX9_bonusOwner_38 ?_
    refine V_iload_n C 0 dX9_bonusOwner_41 rfl rfl ?_
    obtain ⟨a9, e8, h⟩ := bnd_s h
    refine W_callvi C cf_X5_at (c_X5_at (so_9_15 h0) e8) q_ML_X9_106 (ws_X5 (so_9_15 h0)) rfl dX9_bonusOwner_42 (by decide) rfl rfl (Nat.le_of_ble_eq_true rfl) ?_
    refine V_bipush C dX9_bonusOwner_45 kc_b_50 ?_
    refine V_icmp_lt C dX9_bonusOwner_47 rfl (fun c10 => ?_) (fun c10 => ?_)
    · replace h := ifp c10 h
      refine V_sub C [2, 1, 0] rfl ?_
      exact v_X9_bonusOwner_54 C X h0 h
    · replace h := ifn c10 h
      refine V_iconst C dX9_bonusOwner_50 kc_i_1 ?_
      refine V_goto C dX9_bonusOwner_51 rfl ?_
      refine V_sub C [2, 1, 0] rfl ?_
      exact v_X9_bonusOwner_55 C X h0 h
theorem c_X9_bonusOwner {ε : eT} {S : St} {v0 : Nat} {v1 : Int32} {res : Int32} (h0 : sh v0 = 9) (h : f_X9_bonusOwner S v0 v1 = some res) : CI ε yX9_bonusOwner cX9_bonusOwner 6 (some .int) 2 [.ref (eA ε v0), .int v1] S (some (.int res)) S := CI_of (by decide) (Nat.le_of_ble_eq_true rfl) rfl (fun κ C X => v_X9_bonusOwner_e C X h0 h)
def f_X9_copy (S : St) (v0 : Nat) (v1 : Nat) : Option St :=
 bnd (f_X3_copy S (v0 + 1) (v1 + 1)) (fun S2 =>
 bnd (f_X8_copy S2 (v0 + 10) (v1 + 10)) (fun S4 =>
 bnd (f_X5_copy S4 (v0 + 21) (v1 + 21)) (fun S6 =>
 bnd (f_X5_copy S6 (v0 + 23) (v1 + 23)) (fun S8 =>
 bnd (f_X5_copy S8 (v0 + 25) (v1 + 25)) (fun S10 =>
 bnd (f_X5_copy S10 (v0 + 27) (v1 + 27)) (fun S12 =>
 bnd (f_X7_hold S12 (v0 + 29) (v1 + 30)) (fun S14 =>
 bnd (f_X7_hold S14 (v0 + 36) (v1 + 37)) (fun S16 =>
 bnd (f_X5_copy S16 (v0 + 43) (v1 + 43)) (fun S18 =>
 bnd (f_X5_copy S18 (v0 + 45) (v1 + 45)) (fun S20 =>
 some (pt (pt (pt (pt S20 v0 11 (S20.1 v1 11)) v0 12 ((pt S20 v0 11 (S20.1 v1 11)).1 v1 12)) v0 13 ((pt (pt S20 v0 11 (S20.1 v1 11)) v0 12 ((pt S20 v0 11 (S20.1 v1 11)).1 v1 12)).1 v1 13)) v0 14 ((pt (pt (pt S20 v0 11 (S20.1 v1 11)) v0 12 ((pt S20 v0 11 (S20.1 v1 11)).1 v1 12)) v0 13 ((pt (pt S20 v0 11 (S20.1 v1 11)) v0 12 ((pt S20 v0 11 (S20.1 v1 11)).1 v1 12)).1 v1 13)).1 v1 14))))))))))))
set_option maxRecDepth 20000 in
theorem v_X9_copy_e {ε : eT} {κ : kT} (C : Act ε κ cX9_copy 2 RX9 4) {S : St} {res : St} (X : RI ε κ none none res) {v0 : Nat} {v1 : Nat} (h0 : sh v0 = 9) (h1 : sh v1 = 9) (h : f_X9_copy S v0 v1 = some res) : V ε κ 2 0 [(0, .ref (eA ε v0)), (1, .ref (eA ε v1))] [] (wsOf ε S) 0 0 := by
  unfold f_X9_copy at h
  refine V_aload_n C 0 dX9_copy_0 rfl rfl ?_
  refine G_X9_people (q := v0) C h0 q_FL_X9_12 dX9_copy_1 ?_
  refine V_aload_n C 1 dX9_copy_4 rfl rfl ?_
  refine G_X9_people (q := v1) C h1 q_FL_X9_12 dX9_copy_5 ?_
  obtain ⟨S2, e1, h⟩ := bnd_s h
  refine W_callvn C cf_X3_copy (c_X3_copy (so_9_1 h0) (so_9_1 h1) e1) q_ML_X9_74 (ws_X3 (so_9_1 h0)) rfl dX9_copy_8 (by decide) rfl rfl (Nat.le_of_ble_eq_true rfl) ?_
  refine V_aload_n C 0 dX9_copy_11 rfl rfl ?_
  refine G_X9_things (q := v0) C h0 q_FL_X9_21 dX9_copy_12 ?_
  refine V_aload_n C 1 dX9_copy_15 rfl rfl ?_
  refine G_X9_things (q := v1) C h1 q_FL_X9_21 dX9_copy_16 ?_
  obtain ⟨S4, e3, h⟩ := bnd_s h
  refine W_callvn C cf_X8_copy (c_X8_copy (so_9_10 h0) (so_9_10 h1) e3) q_ML_X9_78 (ws_X8 (so_9_10 h0)) rfl dX9_copy_19 (by decide) rfl rfl (Nat.le_of_ble_eq_true rfl) ?_
  refine V_aload_n C 0 dX9_copy_22 rfl rfl ?_
  refine G_X9_ones (q := v0) C h0 q_FL_X9_30 dX9_copy_23 ?_
  refine V_aload_n C 1 dX9_copy_26 rfl rfl ?_
  refine G_X9_ones (q := v1) C h1 q_FL_X9_30 dX9_copy_27 ?_
  obtain ⟨S6, e5, h⟩ := bnd_s h
  refine W_callvn C cf_X5_copy (c_X5_copy (so_9_21 h0) (so_9_21 h1) e5) q_ML_X9_81 (ws_X5 (so_9_21 h0)) rfl dX9_copy_30 (by decide) rfl rfl (Nat.le_of_ble_eq_true rfl) ?_
  refine V_aload_n C 0 dX9_copy_33 rfl rfl ?_
  refine G_X9_others (q := v0) C h0 q_FL_X9_34 dX9_copy_34 ?_
  refine V_aload_n C 1 dX9_copy_37 rfl rfl ?_
  refine G_X9_others (q := v1) C h1 q_FL_X9_34 dX9_copy_38 ?_
  obtain ⟨S8, e7, h⟩ := bnd_s h
  refine W_callvn C cf_X5_copy (c_X5_copy (so_9_23 h0) (so_9_23 h1) e7) q_ML_X9_81 (ws_X5 (so_9_23 h0)) rfl dX9_copy_41 (by decide) rfl rfl (Nat.le_of_ble_eq_true rfl) ?_
  refine V_aload_n C 0 dX9_copy_44 rfl rfl ?_
  refine G_X9_bonuses (q := v0) C h0 q_FL_X9_37 dX9_copy_45 ?_
  refine V_aload_n C 1 dX9_copy_48 rfl rfl ?_
  refine G_X9_bonuses (q := v1) C h1 q_FL_X9_37 dX9_copy_49 ?_
  obtain ⟨S10, e9, h⟩ := bnd_s h
  refine W_callvn C cf_X5_copy (c_X5_copy (so_9_25 h0) (so_9_25 h1) e9) q_ML_X9_81 (ws_X5 (so_9_25 h0)) rfl dX9_copy_52 (by decide) rfl rfl (Nat.le_of_ble_eq_true rfl) ?_
  refine V_aload_n C 0 dX9_copy_55 rfl rfl ?_
  refine G_X9_rules (q := v0) C h0 q_FL_X9_40 dX9_copy_56 ?_
  refine V_aload_n C 1 dX9_copy_59 rfl rfl ?_
  refine G_X9_rules (q := v1) C h1 q_FL_X9_40 dX9_copy_60 ?_
  obtain ⟨S12, e11, h⟩ := bnd_s h
  refine W_callvn C cf_X5_copy (c_X5_copy (so_9_27 h0) (so_9_27 h1) e11) q_ML_X9_81 (ws_X5 (so_9_27 h0)) rfl dX9_copy_63 (by decide) rfl rfl (Nat.le_of_ble_eq_true rfl) ?_
  refine V_aload_n C 0 dX9_copy_66 rfl rfl ?_
  refine G_X9_naming (q := v0) C h0 q_FL_X9_53 dX9_copy_67 ?_
  refine V_aload_n C 1 dX9_copy_70 rfl rfl ?_
  refine G_X9_naming (q := v1) C h1 q_FL_X9_53 dX9_copy_71 ?_
  refine G_X7_codeN (q := (v1 + 29)) C (so_9_29 h1) C.2.2.2.2.1.2.2.2.2.2.2.2.2.1 dX9_copy_74 ?_
  obtain ⟨S14, e13, h⟩ := bnd_s h
  refine W_callvn C cf_X7_hold (c_X7_hold (so_9_29 h0) (so_9_30 h1) e13) q_ML_X9_87 (ws_X7 (so_9_29 h0)) rfl dX9_copy_77 (by decide) rfl rfl (Nat.le_of_ble_eq_true rfl) ?_
  refine V_aload_n C 0 dX9_copy_80 rfl rfl ?_
  refine G_X9_mending (q := v0) C h0 q_FL_X9_57 dX9_copy_81 ?_
  refine V_aload_n C 1 dX9_copy_84 rfl rfl ?_
  refine G_X9_mending (q := v1) C h1 q_FL_X9_57 dX9_copy_85 ?_
  refine G_X7_codeN (q := (v1 + 36)) C (so_9_36 h1) C.2.2.2.2.1.2.2.2.2.2.2.2.2.1 dX9_copy_88 ?_
  obtain ⟨S16, e15, h⟩ := bnd_s h
  refine W_callvn C cf_X7_hold (c_X7_hold (so_9_36 h0) (so_9_37 h1) e15) q_ML_X9_87 (ws_X7 (so_9_36 h0)) rfl dX9_copy_91 (by decide) rfl rfl (Nat.le_of_ble_eq_true rfl) ?_
  refine V_aload_n C 0 dX9_copy_94 rfl rfl ?_
  refine G_X9_tape (q := v0) C h0 q_FL_X9_60 dX9_copy_95 ?_
  refine V_aload_n C 1 dX9_copy_98 rfl rfl ?_
  refine G_X9_tape (q := v1) C h1 q_FL_X9_60 dX9_copy_99 ?_
  obtain ⟨S18, e17, h⟩ := bnd_s h
  refine W_callvn C cf_X5_copy (c_X5_copy (so_9_43 h0) (so_9_43 h1) e17) q_ML_X9_81 (ws_X5 (so_9_43 h0)) rfl dX9_copy_102 (by decide) rfl rfl (Nat.le_of_ble_eq_true rfl) ?_
  refine V_aload_n C 0 dX9_copy_105 rfl rfl ?_
  refine G_X9_waiting (q := v0) C h0 q_FL_X9_63 dX9_copy_106 ?_
  refine V_aload_n C 1 dX9_copy_109 rfl rfl ?_
  refine G_X9_waiting (q := v1) C h1 q_FL_X9_63 dX9_copy_110 ?_
  obtain ⟨S20, e19, h⟩ := bnd_s h
  refine W_callvn C cf_X5_copy (c_X5_copy (so_9_45 h0) (so_9_45 h1) e19) q_ML_X9_81 (ws_X5 (so_9_45 h0)) rfl dX9_copy_113 (by decide) rfl rfl (Nat.le_of_ble_eq_true rfl) ?_
  refine V_aload_n C 0 dX9_copy_116 rfl rfl ?_
  refine V_aload_n C 1 dX9_copy_117 rfl rfl ?_
  refine G_X9_years (q := v1) C h1 q_FL_X9_90 dX9_copy_118 ?_
  refine P_X9_years (q := v0) C h0 q_FL_X9_90 dX9_copy_121 ?_
  refine V_aload_n C 0 dX9_copy_124 rfl rfl ?_
  refine V_aload_n C 1 dX9_copy_125 rfl rfl ?_
  refine G_X9_moves (q := v1) C h1 q_FL_X9_93 dX9_copy_126 ?_
  refine P_X9_moves (q := v0) C h0 q_FL_X9_93 dX9_copy_129 ?_
  refine V_aload_n C 0 dX9_copy_132 rfl rfl ?_
  refine V_aload_n C 1 dX9_copy_133 rfl rfl ?_
  refine G_X9_pot (q := v1) C h1 q_FL_X9_96 dX9_copy_134 ?_
  refine P_X9_pot (q := v0) C h0 q_FL_X9_96 dX9_copy_137 ?_
  refine V_aload_n C 0 dX9_copy_140 rfl rfl ?_
  refine V_aload_n C 1 dX9_copy_141 rfl rfl ?_
  refine G_X9_z (q := v1) C h1 q_FL_X9_70 dX9_copy_142 ?_
  refine P_X9_z (q := v0) C h0 q_FL_X9_70 dX9_copy_145 ?_
  exact V_vret C X dX9_copy_148 ⟨rfl, rv_2 h⟩
theorem c_X9_copy {ε : eT} {S : St} {v0 : Nat} {v1 : Nat} {res : St} (h0 : sh v0 = 9) (h1 : sh v1 = 9) (h : f_X9_copy S v0 v1 = some res) : CI ε yX9_copy cX9_copy 2 none 4 [.ref (eA ε v0), .ref (eA ε v1)] S none res := CI_of (by decide) (Nat.le_of_ble_eq_true rfl) rfl (fun κ C X => v_X9_copy_e C X h0 h1 h)
def f_X9_held_77 (N : Nat) (S : St) (K45 : Nat → Int32 → Int32 → Option Int32) (v0 : Nat) (v2 : Int32) (s0 : Int32) (s1 : Int32) : Option Int32 :=
 K45 v0 (s1 + s0) (v2 + 1)
set_option maxRecDepth 20000 in
theorem v_X9_held_77 {ε : eT} {κ : kT} {N : Nat} (C : Act ε κ cX9_held 3 RX9 3) {S : St} {res : Int32} (X : RI ε κ (some .int) (some (.int res)) S) {K45 : Nat → Int32 → Int32 → Option Int32} (hK45 : ∀ (v0 : Nat) (v1 : Int32) (v2 : Int32) (_ : sh v0 = 9), K45 v0 v1 v2 = some res → V ε κ 3 45 [(0, .ref (eA ε v0)), (1, .int v1), (2, .int v2)] [] (wsOf ε S) 0 0) {v0 : Nat} {v2 : Int32} {s0 : Int32} {s1 : Int32} (h0 : sh v0 = 9) (h : f_X9_held_77 N S K45 v0 v2 s0 s1 = some res) : V ε κ 3 77 [(0, .ref (eA ε v0)), (2, .int v2)] [.int s0, .int s1] (wsOf ε S) 0 0 := by
  unfold f_X9_held_77 at h
  refine V_iadd C dX9_held_77 ?_
  refine V_istore_n (lv' := [(1, .int (s1 + s0)), (0, .ref (eA ε v0)), (2, .int v2)]) C dX9_held_78 rfl (by decide) rfl ?_
  refine V_iinc (v := (v2 + 1)) (lv' := [(2, .int (v2 + 1)), (1, .int (s1 + s0)), (0, .ref (eA ε v0))]) C 2 dX9_held_79 rfl (congrArg _ kc_i_1) (by decide) rfl ?_
  refine V_goto C dX9_held_82 rfl ?_
  refine V_sub C [2, 1, 0] rfl ?_
  exact hK45 _ _ _ h0 h
def f_X9_held_45 (N : Nat) (S : St) : Nat → Nat → Int32 → Int32 → Option Int32
  | 0, _, _, _ => none
  | n + 1, v0, v1, v2 =>
    bnd (f_X5_size S (v0 + 25)) (fun a2 =>
     (if a2 ≤ v2 then
     some v1
     else
     bnd (f_X9_bonusOwner S v0 v2) (fun a5 =>
     (if a5 < 0 then
     f_X9_held_77 N S (f_X9_held_45 N S n) v0 v2 (0 : Int32) v1
     else
     bnd (f_X5_at S (v0 + 25) v2) (fun a8 =>
     f_X9_held_77 N S (f_X9_held_45 N S n) v0 v2 a8 v1)))))
set_option maxRecDepth 20000 in
theorem v_X9_held_45 {ε : eT} {κ : kT} {N : Nat} (C : Act ε κ cX9_held 3 RX9 3) {S : St} {res : Int32} (X : RI ε κ (some .int) (some (.int res)) S) : ∀ (n : Nat) (v0 : Nat) (v1 : Int32) (v2 : Int32) (h0 : sh v0 = 9) (h : f_X9_held_45 N S n v0 v1 v2 = some res), V ε κ 3 45 [(0, .ref (eA ε v0)), (1, .int v1), (2, .int v2)] [] (wsOf ε S) 0 0 := by
  intro n
  induction n with
  | zero => intro v0 v1 v2 h0 h; cases h
  | succ n ih =>
    intro v0 v1 v2 h0 h
    rw [f_X9_held_45] at h
    refine V_iload_n C 2 dX9_held_45 rfl rfl ?_
    refine V_aload_n C 0 dX9_held_46 rfl rfl ?_
    refine G_X9_bonuses (q := v0) C h0 q_FL_X9_37 dX9_held_47 ?_
    obtain ⟨a2, e1, h⟩ := bnd_s h
    refine W_callvi C cf_X5_size (c_X5_size (so_9_25 h0) e1) q_ML_X9_102 (ws_X5 (so_9_25 h0)) rfl dX9_held_50 (by decide) rfl rfl (Nat.le_of_ble_eq_true rfl) ?_
    refine V_icmp_ge C dX9_held_53 rfl (fun c3 => ?_) (fun c3 => ?_)
    · replace h := ifp c3 h
      refine V_iload_n C 1 dX9_held_85 rfl rfl ?_
      exact V_iret C X dX9_held_86 ⟨rip_1 h, rfl⟩
    · replace h := ifn c3 h
      refine V_iload_n C 1 dX9_held_56 rfl rfl ?_
      refine V_aload_n C 0 dX9_held_57 rfl rfl ?_
      refine V_iload_n C 2 dX9_held_58 rfl rfl ?_
      obtain ⟨a5, e4, h⟩ := bnd_s h
      refine W_callvi C cf_X9_bonusOwner (c_X9_bonusOwner h0 e4) q_ML_X9_177 (ws_X9 h0) rfl dX9_held_59 (by decide) rfl rfl (Nat.le_of_ble_eq_true rfl) ?_
      refine V_if_lt C dX9_held_62 rfl (fun c6 => ?_) (fun c6 => ?_)
      · replace h := ifp c6 h
        refine V_iconst C dX9_held_76 kc_i_0 ?_
        refine V_sub C [0, 2] rfl ?_
        exact v_X9_held_77 C X ih h0 h
      · replace h := ifn c6 h
        refine V_aload_n C 0 dX9_held_65 rfl rfl ?_
        refine G_X9_bonuses (q := v0) C h0 q_FL_X9_37 dX9_held_66 ?_
        refine V_iload_n C 2 dX9_held_69 rfl rfl ?_
        obtain ⟨a8, e7, h⟩ := bnd_s h
        refine W_callvi C cf_X5_at (c_X5_at (so_9_25 h0) e7) q_ML_X9_106 (ws_X5 (so_9_25 h0)) rfl dX9_held_70 (by decide) rfl rfl (Nat.le_of_ble_eq_true rfl) ?_
        refine V_goto C dX9_held_73 rfl ?_
        refine V_sub C [0, 2] rfl ?_
        exact v_X9_held_77 C X ih h0 h
def f_X9_held_4 (N : Nat) (S : St) : Nat → Nat → Int32 → Int32 → Option Int32
  | 0, _, _, _ => none
  | n + 1, v0, v1, v2 =>
    bnd (f_X8_size S (v0 + 10)) (fun a2 =>
     (if a2 ≤ v2 then
     f_X9_held_45 N S N v0 v1 (0 : Int32)
     else
     bnd (f_X5_at S (v0 + 11) v2) (fun a5 =>
     bnd (f_X8_valueOf S (v0 + 10) a5 v2) (fun a7 =>
     f_X9_held_4 N S n v0 (v1 + a7) (v2 + 1)))))
set_option maxRecDepth 20000 in
theorem v_X9_held_4 {ε : eT} {κ : kT} {N : Nat} (C : Act ε κ cX9_held 3 RX9 3) {S : St} {res : Int32} (X : RI ε κ (some .int) (some (.int res)) S) : ∀ (n : Nat) (v0 : Nat) (v1 : Int32) (v2 : Int32) (h0 : sh v0 = 9) (h : f_X9_held_4 N S n v0 v1 v2 = some res), V ε κ 3 4 [(0, .ref (eA ε v0)), (1, .int v1), (2, .int v2)] [] (wsOf ε S) 0 0 := by
  intro n
  induction n with
  | zero => intro v0 v1 v2 h0 h; cases h
  | succ n ih =>
    intro v0 v1 v2 h0 h
    rw [f_X9_held_4] at h
    refine V_iload_n C 2 dX9_held_4 rfl rfl ?_
    refine V_aload_n C 0 dX9_held_5 rfl rfl ?_
    refine G_X9_things (q := v0) C h0 q_FL_X9_21 dX9_held_6 ?_
    obtain ⟨a2, e1, h⟩ := bnd_s h
    refine W_callvi C cf_X8_size (c_X8_size (so_9_10 h0) e1) q_ML_X9_176 (ws_X8 (so_9_10 h0)) rfl dX9_held_9 (by decide) rfl rfl (Nat.le_of_ble_eq_true rfl) ?_
    refine V_icmp_ge C dX9_held_12 rfl (fun c3 => ?_) (fun c3 => ?_)
    · replace h := ifp c3 h
      refine V_iconst C dX9_held_43 kc_i_0 ?_
      refine V_istore_n (lv' := [(2, .int (0 : Int32)), (0, .ref (eA ε v0)), (1, .int v1)]) C dX9_held_44 rfl (by decide) rfl ?_
      refine V_sub C [1, 2, 0] rfl ?_
      exact v_X9_held_45 C X N _ _ _ h0 h
    · replace h := ifn c3 h
      refine V_iload_n C 1 dX9_held_15 rfl rfl ?_
      refine V_aload_n C 0 dX9_held_16 rfl rfl ?_
      refine G_X9_things (q := v0) C h0 q_FL_X9_21 dX9_held_17 ?_
      refine V_aload_n C 0 dX9_held_20 rfl rfl ?_
      refine G_X9_things (q := v0) C h0 q_FL_X9_21 dX9_held_21 ?_
      refine G_X8_owners (q := (v0 + 10)) C (so_9_10 h0) q_FL_X9_113 dX9_held_24 ?_
      refine V_iload_n C 2 dX9_held_27 rfl rfl ?_
      obtain ⟨a5, e4, h⟩ := bnd_s h
      refine W_callvi C cf_X5_at (c_X5_at (so_9_11 h0) e4) q_ML_X9_106 (ws_X5 (so_9_11 h0)) rfl dX9_held_28 (by decide) rfl rfl (Nat.le_of_ble_eq_true rfl) ?_
      refine V_iload_n C 2 dX9_held_31 rfl rfl ?_
      obtain ⟨a7, e6, h⟩ := bnd_s h
      refine W_callvi C cf_X8_valueOf (c_X8_valueOf (so_9_10 h0) e6) q_ML_X9_117 (ws_X8 (so_9_10 h0)) rfl dX9_held_32 (by decide) rfl rfl (Nat.le_of_ble_eq_true rfl) ?_
      refine V_iadd C dX9_held_35 ?_
      refine V_istore_n (lv' := [(1, .int (v1 + a7)), (0, .ref (eA ε v0)), (2, .int v2)]) C dX9_held_36 rfl (by decide) rfl ?_
      refine V_iinc (v := (v2 + 1)) (lv' := [(2, .int (v2 + 1)), (1, .int (v1 + a7)), (0, .ref (eA ε v0))]) C 2 dX9_held_37 rfl (congrArg _ kc_i_1) (by decide) rfl ?_
      refine V_goto C dX9_held_40 rfl ?_
      refine V_sub C [2, 1, 0] rfl ?_
      exact ih _ _ _ h0 h
def f_X9_held (N : Nat) (S : St) (v0 : Nat) : Option Int32 :=
 f_X9_held_4 N S N v0 (0 : Int32) (0 : Int32)
set_option maxRecDepth 20000 in
theorem v_X9_held_e {ε : eT} {κ : kT} {N : Nat} (C : Act ε κ cX9_held 3 RX9 3) {S : St} {res : Int32} (X : RI ε κ (some .int) (some (.int res)) S) {v0 : Nat} (h0 : sh v0 = 9) (h : f_X9_held N S v0 = some res) : V ε κ 3 0 [(0, .ref (eA ε v0))] [] (wsOf ε S) 0 0 := by
  unfold f_X9_held at h
  refine V_iconst C dX9_held_0 kc_i_0 ?_
  refine V_istore_n (lv' := [(1, .int (0 : Int32)), (0, .ref (eA ε v0))]) C dX9_held_1 rfl (by decide) rfl ?_
  refine V_iconst C dX9_held_2 kc_i_0 ?_
  refine V_istore_n (lv' := [(2, .int (0 : Int32)), (1, .int (0 : Int32)), (0, .ref (eA ε v0))]) C dX9_held_3 rfl (by decide) rfl ?_
  refine V_sub C [2, 1, 0] rfl ?_
  exact v_X9_held_4 C X N _ _ _ h0 h
theorem c_X9_held {ε : eT} {N : Nat} {S : St} {v0 : Nat} {res : Int32} (h0 : sh v0 = 9) (h : f_X9_held N S v0 = some res) : CI ε yX9_held cX9_held 3 (some .int) 3 [.ref (eA ε v0)] S (some (.int res)) S := CI_of (by decide) (Nat.le_of_ble_eq_true rfl) rfl (fun κ C X => v_X9_held_e C X h0 h)
def f_X9_fondestOf_38 (N : Nat) (S : St) (K4 : Nat → Int32 → Int32 → Int32 → Option Int32) (v0 : Nat) (v1 : Int32) (v2 : Int32) (v3 : Int32) : Option Int32 :=
 K4 v0 v1 v2 (v3 + 1)
set_option maxRecDepth 20000 in
theorem v_X9_fondestOf_38 {ε : eT} {κ : kT} {N : Nat} (C : Act ε κ cX9_fondestOf 4 RX9 3) {S : St} {res : Int32} (X : RI ε κ (some .int) (some (.int res)) S) {K4 : Nat → Int32 → Int32 → Int32 → Option Int32} (hK4 : ∀ (v0 : Nat) (v1 : Int32) (v2 : Int32) (v3 : Int32) (_ : sh v0 = 9), K4 v0 v1 v2 v3 = some res → V ε κ 4 4 [(0, .ref (eA ε v0)), (1, .int v1), (2, .int v2), (3, .int v3)] [] (wsOf ε S) 0 0) {v0 : Nat} {v1 : Int32} {v2 : Int32} {v3 : Int32} (h0 : sh v0 = 9) (h : f_X9_fondestOf_38 N S K4 v0 v1 v2 v3 = some res) : V ε κ 4 38 [(0, .ref (eA ε v0)), (1, .int v1), (2, .int v2), (3, .int v3)] [] (wsOf ε S) 0 0 := by
  unfold f_X9_fondestOf_38 at h
  refine V_iinc (v := (v3 + 1)) (lv' := [(3, .int (v3 + 1)), (0, .ref (eA ε v0)), (1, .int v1), (2, .int v2)]) C 3 dX9_fondestOf_38 rfl (congrArg _ kc_i_1) (by decide) rfl ?_
  refine V_goto C dX9_fondestOf_41 rfl ?_
  refine V_sub C [1, 2, 3, 0] rfl ?_
  exact hK4 _ _ _ _ h0 h
def f_X9_fondestOf_4 (N : Nat) (S : St) : Nat → Nat → Int32 → Int32 → Int32 → Option Int32
  | 0, _, _, _, _ => none
  | n + 1, v0, v1, v2, v3 =>
    bnd (f_X3_size S (v0 + 1)) (fun a2 =>
     (if a2 ≤ v3 then
     some v2
     else
     bnd (f_X8_valueOf S (v0 + 10) v3 v1) (fun a5 =>
     bnd (f_X8_valueOf S (v0 + 10) v2 v1) (fun a7 =>
     (if a5 ≤ a7 then
     f_X9_fondestOf_38 N S (f_X9_fondestOf_4 N S n) v0 v1 v2 v3
     else
     f_X9_fondestOf_38 N S (f_X9_fondestOf_4 N S n) v0 v1 v3 v3)))))
set_option maxRecDepth 20000 in
theorem v_X9_fondestOf_4 {ε : eT} {κ : kT} {N : Nat} (C : Act ε κ cX9_fondestOf 4 RX9 3) {S : St} {res : Int32} (X : RI ε κ (some .int) (some (.int res)) S) : ∀ (n : Nat) (v0 : Nat) (v1 : Int32) (v2 : Int32) (v3 : Int32) (h0 : sh v0 = 9) (h : f_X9_fondestOf_4 N S n v0 v1 v2 v3 = some res), V ε κ 4 4 [(0, .ref (eA ε v0)), (1, .int v1), (2, .int v2), (3, .int v3)] [] (wsOf ε S) 0 0 := by
  intro n
  induction n with
  | zero => intro v0 v1 v2 v3 h0 h; cases h
  | succ n ih =>
    intro v0 v1 v2 v3 h0 h
    rw [f_X9_fondestOf_4] at h
    refine V_iload_n C 3 dX9_fondestOf_4 rfl rfl ?_
    refine V_aload_n C 0 dX9_fondestOf_5 rfl rfl ?_
    refine G_X9_people (q := v0) C h0 q_FL_X9_12 dX9_fondestOf_6 ?_
    obtain ⟨a2, e1, h⟩ := bnd_s h
    refine W_callvi C cf_X3_size (c_X3_size (so_9_1 h0) e1) q_ML_X9_116 (ws_X3 (so_9_1 h0)) rfl dX9_fondestOf_9 (by decide) rfl rfl (Nat.le_of_ble_eq_true rfl) ?_
    refine V_icmp_ge C dX9_fondestOf_12 rfl (fun c3 => ?_) (fun c3 => ?_)
    · replace h := ifp c3 h
      refine V_iload_n C 2 dX9_fondestOf_44 rfl rfl ?_
      exact V_iret C X dX9_fondestOf_45 ⟨rip_1 h, rfl⟩
    · replace h := ifn c3 h
      refine V_aload_n C 0 dX9_fondestOf_15 rfl rfl ?_
      refine G_X9_things (q := v0) C h0 q_FL_X9_21 dX9_fondestOf_16 ?_
      refine V_iload_n C 3 dX9_fondestOf_19 rfl rfl ?_
      refine V_iload_n C 1 dX9_fondestOf_20 rfl rfl ?_
      obtain ⟨a5, e4, h⟩ := bnd_s h
      refine W_callvi C cf_X8_valueOf (c_X8_valueOf (so_9_10 h0) e4) q_ML_X9_117 (ws_X8 (so_9_10 h0)) rfl dX9_fondestOf_21 (by decide) rfl rfl (Nat.le_of_ble_eq_true rfl) ?_
      refine V_aload_n C 0 dX9_fondestOf_24 rfl rfl ?_
      refine G_X9_things (q := v0) C h0 q_FL_X9_21 dX9_fondestOf_25 ?_
      refine V_iload_n C 2 dX9_fondestOf_28 rfl rfl ?_
      refine V_iload_n C 1 dX9_fondestOf_29 rfl rfl ?_
      obtain ⟨a7, e6, h⟩ := bnd_s h
      refine W_callvi C cf_X8_valueOf (c_X8_valueOf (so_9_10 h0) e6) q_ML_X9_117 (ws_X8 (so_9_10 h0)) rfl dX9_fondestOf_30 (by decide) rfl rfl (Nat.le_of_ble_eq_true rfl) ?_
      refine V_icmp_le C dX9_fondestOf_33 rfl (fun c8 => ?_) (fun c8 => ?_)
      · replace h := ifp c8 h
        exact v_X9_fondestOf_38 C X ih h0 h
      · replace h := ifn c8 h
        refine V_iload_n C 3 dX9_fondestOf_36 rfl rfl ?_
        refine V_istore_n (lv' := [(2, .int v3), (0, .ref (eA ε v0)), (1, .int v1), (3, .int v3)]) C dX9_fondestOf_37 rfl (by decide) rfl ?_
        refine V_sub C [1, 2, 0, 3] rfl ?_
        exact v_X9_fondestOf_38 C X ih h0 h
def f_X9_fondestOf (N : Nat) (S : St) (v0 : Nat) (v1 : Int32) : Option Int32 :=
 f_X9_fondestOf_4 N S N v0 v1 (0 : Int32) (1 : Int32)
set_option maxRecDepth 20000 in
theorem v_X9_fondestOf_e {ε : eT} {κ : kT} {N : Nat} (C : Act ε κ cX9_fondestOf 4 RX9 3) {S : St} {res : Int32} (X : RI ε κ (some .int) (some (.int res)) S) {v0 : Nat} {v1 : Int32} (h0 : sh v0 = 9) (h : f_X9_fondestOf N S v0 v1 = some res) : V ε κ 4 0 [(0, .ref (eA ε v0)), (1, .int v1)] [] (wsOf ε S) 0 0 := by
  unfold f_X9_fondestOf at h
  refine V_iconst C dX9_fondestOf_0 kc_i_0 ?_
  refine V_istore_n (lv' := [(2, .int (0 : Int32)), (0, .ref (eA ε v0)), (1, .int v1)]) C dX9_fondestOf_1 rfl (by decide) rfl ?_
  refine V_iconst C dX9_fondestOf_2 kc_i_1 ?_
  refine V_istore_n (lv' := [(3, .int (1 : Int32)), (2, .int (0 : Int32)), (0, .ref (eA ε v0)), (1, .int v1)]) C dX9_fondestOf_3 rfl (by decide) rfl ?_
  refine V_sub C [2, 3, 1, 0] rfl ?_
  exact v_X9_fondestOf_4 C X N _ _ _ _ h0 h
theorem c_X9_fondestOf {ε : eT} {N : Nat} {S : St} {v0 : Nat} {v1 : Int32} {res : Int32} (h0 : sh v0 = 9) (h : f_X9_fondestOf N S v0 v1 = some res) : CI ε yX9_fondestOf cX9_fondestOf 4 (some .int) 3 [.ref (eA ε v0), .int v1] S (some (.int res)) S := CI_of (by decide) (Nat.le_of_ble_eq_true rfl) rfl (fun κ C X => v_X9_fondestOf_e C X h0 h)
def f_X9_most_4 (N : Nat) (S : St) : Nat → Nat → Int32 → Int32 → Option Int32
  | 0, _, _, _ => none
  | n + 1, v0, v1, v2 =>
    bnd (f_X8_size S (v0 + 10)) (fun a2 =>
     (if a2 ≤ v2 then
     some v1
     else
     bnd (f_X9_fondestOf N S v0 v2) (fun a5 =>
     bnd (f_X8_valueOf S (v0 + 10) a5 v2) (fun a7 =>
     f_X9_most_4 N S n v0 (v1 + a7) (v2 + 1)))))
set_option maxRecDepth 20000 in
theorem v_X9_most_4 {ε : eT} {κ : kT} {N : Nat} (C : Act ε κ cX9_most 3 RX9 4) {S : St} {res : Int32} (X : RI ε κ (some .int) (some (.int res)) S) : ∀ (n : Nat) (v0 : Nat) (v1 : Int32) (v2 : Int32) (h0 : sh v0 = 9) (h : f_X9_most_4 N S n v0 v1 v2 = some res), V ε κ 3 4 [(0, .ref (eA ε v0)), (1, .int v1), (2, .int v2)] [] (wsOf ε S) 0 0 := by
  intro n
  induction n with
  | zero => intro v0 v1 v2 h0 h; cases h
  | succ n ih =>
    intro v0 v1 v2 h0 h
    rw [f_X9_most_4] at h
    refine V_iload_n C 2 dX9_most_4 rfl rfl ?_
    refine V_aload_n C 0 dX9_most_5 rfl rfl ?_
    refine G_X9_things (q := v0) C h0 q_FL_X9_21 dX9_most_6 ?_
    obtain ⟨a2, e1, h⟩ := bnd_s h
    refine W_callvi C cf_X8_size (c_X8_size (so_9_10 h0) e1) q_ML_X9_176 (ws_X8 (so_9_10 h0)) rfl dX9_most_9 (by decide) rfl rfl (Nat.le_of_ble_eq_true rfl) ?_
    refine V_icmp_ge C dX9_most_12 rfl (fun c3 => ?_) (fun c3 => ?_)
    · replace h := ifp c3 h
      refine V_iload_n C 1 dX9_most_37 rfl rfl ?_
      exact V_iret C X dX9_most_38 ⟨rip_1 h, rfl⟩
    · replace h := ifn c3 h
      refine V_iload_n C 1 dX9_most_15 rfl rfl ?_
      refine V_aload_n C 0 dX9_most_16 rfl rfl ?_
      refine G_X9_things (q := v0) C h0 q_FL_X9_21 dX9_most_17 ?_
      refine V_aload_n C 0 dX9_most_20 rfl rfl ?_
      refine V_iload_n C 2 dX9_most_21 rfl rfl ?_
      obtain ⟨a5, e4, h⟩ := bnd_s h
      refine W_callvi C cf_X9_fondestOf (c_X9_fondestOf h0 e4) q_ML_X9_180 (ws_X9 h0) rfl dX9_most_22 (by decide) rfl rfl (Nat.le_of_ble_eq_true rfl) ?_
      refine V_iload_n C 2 dX9_most_25 rfl rfl ?_
      obtain ⟨a7, e6, h⟩ := bnd_s h
      refine W_callvi C cf_X8_valueOf (c_X8_valueOf (so_9_10 h0) e6) q_ML_X9_117 (ws_X8 (so_9_10 h0)) rfl dX9_most_26 (by decide) rfl rfl (Nat.le_of_ble_eq_true rfl) ?_
      refine V_iadd C dX9_most_29 ?_
      refine V_istore_n (lv' := [(1, .int (v1 + a7)), (0, .ref (eA ε v0)), (2, .int v2)]) C dX9_most_30 rfl (by decide) rfl ?_
      refine V_iinc (v := (v2 + 1)) (lv' := [(2, .int (v2 + 1)), (1, .int (v1 + a7)), (0, .ref (eA ε v0))]) C 2 dX9_most_31 rfl (congrArg _ kc_i_1) (by decide) rfl ?_
      refine V_goto C dX9_most_34 rfl ?_
      refine V_sub C [2, 1, 0] rfl ?_
      exact ih _ _ _ h0 h
def f_X9_most (N : Nat) (S : St) (v0 : Nat) : Option Int32 :=
 f_X9_most_4 N S N v0 (0 : Int32) (0 : Int32)
set_option maxRecDepth 20000 in
theorem v_X9_most_e {ε : eT} {κ : kT} {N : Nat} (C : Act ε κ cX9_most 3 RX9 4) {S : St} {res : Int32} (X : RI ε κ (some .int) (some (.int res)) S) {v0 : Nat} (h0 : sh v0 = 9) (h : f_X9_most N S v0 = some res) : V ε κ 3 0 [(0, .ref (eA ε v0))] [] (wsOf ε S) 0 0 := by
  unfold f_X9_most at h
  refine V_iconst C dX9_most_0 kc_i_0 ?_
  refine V_istore_n (lv' := [(1, .int (0 : Int32)), (0, .ref (eA ε v0))]) C dX9_most_1 rfl (by decide) rfl ?_
  refine V_iconst C dX9_most_2 kc_i_0 ?_
  refine V_istore_n (lv' := [(2, .int (0 : Int32)), (1, .int (0 : Int32)), (0, .ref (eA ε v0))]) C dX9_most_3 rfl (by decide) rfl ?_
  refine V_sub C [2, 1, 0] rfl ?_
  exact v_X9_most_4 C X N _ _ _ h0 h
theorem c_X9_most {ε : eT} {N : Nat} {S : St} {v0 : Nat} {res : Int32} (h0 : sh v0 = 9) (h : f_X9_most N S v0 = some res) : CI ε yX9_most cX9_most 3 (some .int) 4 [.ref (eA ε v0)] S (some (.int res)) S := CI_of (by decide) (Nat.le_of_ble_eq_true rfl) rfl (fun κ C X => v_X9_most_e C X h0 h)
def f_X9_figure (N : Nat) (S : St) (v0 : Nat) (v1 : Int32) : Option Int32 :=
 (if v1 = 0 then
 bnd (f_X9_held N S v0) (fun a8 =>
 some a8)
 else
 (if v1 = 1 then
 bnd (f_X9_most N S v0) (fun a10 =>
 some a10)
 else
 (if v1 = 2 then
 bnd (f_X5_sum N S (v0 + 4)) (fun a12 =>
 some a12)
 else
 (if v1 = 3 then
 some (S.1 v0 13)
 else
 (if v1 = 4 then
 some (S.1 v0 12)
 else
 (if v1 = 5 then
 bnd (f_X5_sum N S (v0 + 15)) (fun a14 =>
 some a14)
 else
 bnd (f_X5_sum N S (v0 + 13)) (fun a16 =>
 some a16)))))))
set_option maxRecDepth 20000 in
theorem v_X9_figure_e {ε : eT} {κ : kT} {N : Nat} (C : Act ε κ cX9_figure 2 RX9 5) {S : St} {res : Int32} (X : RI ε κ (some .int) (some (.int res)) S) {v0 : Nat} {v1 : Int32} (h0 : sh v0 = 9) (h : f_X9_figure N S v0 v1 = some res) : V ε κ 2 0 [(0, .ref (eA ε v0)), (1, .int v1)] [] (wsOf ε S) 0 0 := by
  unfold f_X9_figure at h
  refine V_iload_n C 1 dX9_figure_0 rfl rfl ?_
  by_cases c1 : v1 = 0
  · replace h := ifp c1 h
    refine V_table C rfl dX9_figure_1 (off := 39) (by rw [c1]; decide +kernel) (tgt := 40) rfl ?_
    refine V_aload_n C 0 dX9_figure_40 rfl rfl ?_
    obtain ⟨a8, e7, h⟩ := bnd_s h
    refine W_callvi C cf_X9_held (c_X9_held h0 e7) q_ML_X9_167 (ws_X9 h0) rfl dX9_figure_41 (by decide) rfl rfl (Nat.le_of_ble_eq_true rfl) ?_
    exact V_iret C X dX9_figure_44 ⟨rip_1 h, rfl⟩
  · replace h := ifn c1 h
    by_cases c2 : v1 = 1
    · replace h := ifp c2 h
      refine V_table C rfl dX9_figure_1 (off := 44) (by rw [c2]; decide +kernel) (tgt := 45) rfl ?_
      refine V_aload_n C 0 dX9_figure_45 rfl rfl ?_
      obtain ⟨a10, e9, h⟩ := bnd_s h
      refine W_callvi C cf_X9_most (c_X9_most h0 e9) q_ML_X9_170 (ws_X9 h0) rfl dX9_figure_46 (by decide) rfl rfl (Nat.le_of_ble_eq_true rfl) ?_
      exact V_iret C X dX9_figure_49 ⟨rip_1 h, rfl⟩
    · replace h := ifn c2 h
      by_cases c3 : v1 = 2
      · replace h := ifp c3 h
        refine V_table C rfl dX9_figure_1 (off := 49) (by rw [c3]; decide +kernel) (tgt := 50) rfl ?_
        refine V_aload_n C 0 dX9_figure_50 rfl rfl ?_
        refine G_X9_people (q := v0) C h0 q_FL_X9_12 dX9_figure_51 ?_
        refine G_X3_purses (q := (v0 + 1)) C (so_9_1 h0) q_FL_X9_160 dX9_figure_54 ?_
        obtain ⟨a12, e11, h⟩ := bnd_s h
        refine W_callvi C cf_X5_sum (c_X5_sum (so_9_4 h0) e11) q_ML_X9_173 (ws_X5 (so_9_4 h0)) rfl dX9_figure_57 (by decide) rfl rfl (Nat.le_of_ble_eq_true rfl) ?_
        exact V_iret C X dX9_figure_60 ⟨rip_1 h, rfl⟩
      · replace h := ifn c3 h
        by_cases c4 : v1 = 3
        · replace h := ifp c4 h
          refine V_table C rfl dX9_figure_1 (off := 60) (by rw [c4]; decide +kernel) (tgt := 61) rfl ?_
          refine V_aload_n C 0 dX9_figure_61 rfl rfl ?_
          refine G_X9_pot (q := v0) C h0 q_FL_X9_96 dX9_figure_62 ?_
          exact V_iret C X dX9_figure_65 ⟨rip_1 h, rfl⟩
        · replace h := ifn c4 h
          by_cases c5 : v1 = 4
          · replace h := ifp c5 h
            refine V_table C rfl dX9_figure_1 (off := 65) (by rw [c5]; decide +kernel) (tgt := 66) rfl ?_
            refine V_aload_n C 0 dX9_figure_66 rfl rfl ?_
            refine G_X9_moves (q := v0) C h0 q_FL_X9_93 dX9_figure_67 ?_
            exact V_iret C X dX9_figure_70 ⟨rip_1 h, rfl⟩
          · replace h := ifn c5 h
            by_cases c6 : v1 = 5
            · replace h := ifp c6 h
              refine V_table C rfl dX9_figure_1 (off := 70) (by rw [c6]; decide +kernel) (tgt := 71) rfl ?_
              refine V_aload_n C 0 dX9_figure_71 rfl rfl ?_
              refine G_X9_things (q := v0) C h0 q_FL_X9_21 dX9_figure_72 ?_
              refine G_X8_sounds (q := (v0 + 10)) C (so_9_10 h0) q_FL_X9_110 dX9_figure_75 ?_
              obtain ⟨a14, e13, h⟩ := bnd_s h
              refine W_callvi C cf_X5_sum (c_X5_sum (so_9_15 h0) e13) q_ML_X9_173 (ws_X5 (so_9_15 h0)) rfl dX9_figure_78 (by decide) rfl rfl (Nat.le_of_ble_eq_true rfl) ?_
              exact V_iret C X dX9_figure_81 ⟨rip_1 h, rfl⟩
            · replace h := ifn c6 h
              refine V_table C rfl dX9_figure_1 (swt_d [(0 : Int32), (1 : Int32), (2 : Int32), (3 : Int32), (4 : Int32), (5 : Int32)] (List.forall_mem_cons.mpr ⟨c1, (List.forall_mem_cons.mpr ⟨c2, (List.forall_mem_cons.mpr ⟨c3, (List.forall_mem_cons.mpr ⟨c4, (List.forall_mem_cons.mpr ⟨c5, (List.forall_mem_cons.mpr ⟨c6, (fun _ h => absurd h List.not_mem_nil)⟩)⟩)⟩)⟩)⟩)⟩) rfl (by decide +kernel)) (tgt := 82) rfl ?_
              refine V_aload_n C 0 dX9_figure_82 rfl rfl ?_
              refine G_X9_things (q := v0) C h0 q_FL_X9_21 dX9_figure_83 ?_
              refine G_X8_prices (q := (v0 + 10)) C (so_9_10 h0) q_FL_X9_129 dX9_figure_86 ?_
              obtain ⟨a16, e15, h⟩ := bnd_s h
              refine W_callvi C cf_X5_sum (c_X5_sum (so_9_13 h0) e15) q_ML_X9_173 (ws_X5 (so_9_13 h0)) rfl dX9_figure_89 (by decide) rfl rfl (Nat.le_of_ble_eq_true rfl) ?_
              exact V_iret C X dX9_figure_92 ⟨rip_1 h, rfl⟩
theorem c_X9_figure {ε : eT} {N : Nat} {S : St} {v0 : Nat} {v1 : Int32} {res : Int32} (h0 : sh v0 = 9) (h : f_X9_figure N S v0 v1 = some res) : CI ε yX9_figure cX9_figure 2 (some .int) 5 [.ref (eA ε v0), .int v1] S (some (.int res)) S := CI_of (by decide) (Nat.le_of_ble_eq_true rfl) rfl (fun κ C X => v_X9_figure_e C X h0 h)
def f_X9_firstWrongOf_53 (N : Nat) (S : St) (v2 : Int32) : Option Int32 :=
 some (v2 + (1 : Int32))
set_option maxRecDepth 20000 in
theorem v_X9_firstWrongOf_53 {ε : eT} {κ : kT} {N : Nat} (C : Act ε κ cX9_firstWrongOf 4 RX9 3) {S : St} {res : Int32} (X : RI ε κ (some .int) (some (.int res)) S) {v2 : Int32} (h : f_X9_firstWrongOf_53 N S v2 = some res) : V ε κ 4 53 [(2, .int v2)] [] (wsOf ε S) 0 0 := by
  unfold f_X9_firstWrongOf_53 at h
  refine V_iload_n C 0 dX9_firstWrongOf_53 rfl rfl ?_
  refine V_iconst C dX9_firstWrongOf_54 kc_i_1 ?_
  refine V_iadd C dX9_firstWrongOf_55 ?_
  exact V_iret C X dX9_firstWrongOf_56 ⟨rip_1 h, rfl⟩
def f_X9_firstWrongOf_60 (N : Nat) (S : St) (K4 : Nat → Int32 → Int32 → Int32 → Option Int32) (v0 : Nat) (v1 : Int32) (v2 : Int32) (v3 : Int32) : Option Int32 :=
 K4 v0 v1 v2 (v3 + 1)
set_option maxRecDepth 20000 in
theorem v_X9_firstWrongOf_60 {ε : eT} {κ : kT} {N : Nat} (C : Act ε κ cX9_firstWrongOf 4 RX9 3) {S : St} {res : Int32} (X : RI ε κ (some .int) (some (.int res)) S) {K4 : Nat → Int32 → Int32 → Int32 → Option Int32} (hK4 : ∀ (v0 : Nat) (v1 : Int32) (v2 : Int32) (v3 : Int32) (_ : sh v0 = 9), K4 v0 v1 v2 v3 = some res → V ε κ 4 4 [(0, .ref (eA ε v0)), (1, .int v1), (2, .int v2), (3, .int v3)] [] (wsOf ε S) 0 0) {v0 : Nat} {v1 : Int32} {v2 : Int32} {v3 : Int32} (h0 : sh v0 = 9) (h : f_X9_firstWrongOf_60 N S K4 v0 v1 v2 v3 = some res) : V ε κ 4 60 [(0, .ref (eA ε v0)), (1, .int v1), (2, .int v2), (3, .int v3)] [] (wsOf ε S) 0 0 := by
  unfold f_X9_firstWrongOf_60 at h
  refine V_iinc (v := (v3 + 1)) (lv' := [(3, .int (v3 + 1)), (0, .ref (eA ε v0)), (1, .int v1), (2, .int v2)]) C 3 dX9_firstWrongOf_60 rfl (congrArg _ kc_i_1) (by decide) rfl ?_
  refine V_goto C dX9_firstWrongOf_63 rfl ?_
  refine V_sub C [1, 2, 3, 0] rfl ?_
  exact hK4 _ _ _ _ h0 h
def f_X9_firstWrongOf_4 (N : Nat) (S : St) : Nat → Nat → Int32 → Int32 → Int32 → Option Int32
  | 0, _, _, _, _ => none
  | n + 1, v0, v1, v2, v3 =>
    bnd (f_X8_size S (v0 + 10)) (fun a2 =>
     (if a2 ≤ v3 then
     bnd (f_X5_size S (v0 + 45)) (fun a5 =>
     (if a5 ≤ v2 then
     some (0 : Int32)
     else
     some (v2 + (1 : Int32))))
     else
     bnd (f_X5_at S (v0 + 11) v3) (fun a8 =>
     (if a8 = v1 then
     bnd (f_X5_size S (v0 + 45)) (fun a11 =>
     (if a11 ≤ v2 then
     f_X9_firstWrongOf_53 N S v2
     else
     bnd (f_X5_at S (v0 + 45) v2) (fun a14 =>
     (if a14 = v3 then
     f_X9_firstWrongOf_60 N S (f_X9_firstWrongOf_4 N S n) v0 v1 (v2 + 1) v3
     else
     f_X9_firstWrongOf_53 N S v2))))
     else
     f_X9_firstWrongOf_60 N S (f_X9_firstWrongOf_4 N S n) v0 v1 v2 v3))))
set_option maxRecDepth 20000 in
theorem v_X9_firstWrongOf_4 {ε : eT} {κ : kT} {N : Nat} (C : Act ε κ cX9_firstWrongOf 4 RX9 3) {S : St} {res : Int32} (X : RI ε κ (some .int) (some (.int res)) S) : ∀ (n : Nat) (v0 : Nat) (v1 : Int32) (v2 : Int32) (v3 : Int32) (h0 : sh v0 = 9) (h : f_X9_firstWrongOf_4 N S n v0 v1 v2 v3 = some res), V ε κ 4 4 [(0, .ref (eA ε v0)), (1, .int v1), (2, .int v2), (3, .int v3)] [] (wsOf ε S) 0 0 := by
  intro n
  induction n with
  | zero => intro v0 v1 v2 v3 h0 h; cases h
  | succ n ih =>
    intro v0 v1 v2 v3 h0 h
    rw [f_X9_firstWrongOf_4] at h
    refine V_iload_n C 3 dX9_firstWrongOf_4 rfl rfl ?_
    refine V_aload_n C 0 dX9_firstWrongOf_5 rfl rfl ?_
    refine G_X9_things (q := v0) C h0 q_FL_X9_21 dX9_firstWrongOf_6 ?_
    obtain ⟨a2, e1, h⟩ := bnd_s h
    refine W_callvi C cf_X8_size (c_X8_size (so_9_10 h0) e1) q_ML_X9_176 (ws_X8 (so_9_10 h0)) rfl dX9_firstWrongOf_9 (by decide) rfl rfl (Nat.le_of_ble_eq_true rfl) ?_
    refine V_icmp_ge C dX9_firstWrongOf_12 rfl (fun c3 => ?_) (fun c3 => ?_)
    · replace h := ifp c3 h
      refine V_iload_n C 2 dX9_firstWrongOf_66 rfl rfl ?_
      refine V_aload_n C 0 dX9_firstWrongOf_67 rfl rfl ?_
      refine G_X9_waiting (q := v0) C h0 q_FL_X9_63 dX9_firstWrongOf_68 ?_
      obtain ⟨a5, e4, h⟩ := bnd_s h
      refine W_callvi C cf_X5_size (c_X5_size (so_9_45 h0) e4) q_ML_X9_102 (ws_X5 (so_9_45 h0)) rfl dX9_firstWrongOf_71 (by decide) rfl rfl (Nat.le_of_ble_eq_true rfl) ?_
      refine V_icmp_ge C dX9_firstWrongOf_74 rfl (fun c6 => ?_) (fun c6 => ?_)
      · replace h := ifp c6 h
        refine V_iconst C dX9_firstWrongOf_83 kc_i_0 ?_
        exact V_iret C X dX9_firstWrongOf_84 ⟨rip_1 h, rfl⟩
      · replace h := ifn c6 h
        refine V_iload_n C 2 dX9_firstWrongOf_77 rfl rfl ?_
        refine V_iconst C dX9_firstWrongOf_78 kc_i_1 ?_
        refine V_iadd C dX9_firstWrongOf_79 ?_
        refine V_goto C dX9_firstWrongOf_80 rfl ?_
        exact V_iret C X dX9_firstWrongOf_84 ⟨rip_1 h, rfl⟩
    · replace h := ifn c3 h
      refine V_aload_n C 0 dX9_firstWrongOf_15 rfl rfl ?_
      refine G_X9_things (q := v0) C h0 q_FL_X9_21 dX9_firstWrongOf_16 ?_
      refine G_X8_owners (q := (v0 + 10)) C (so_9_10 h0) q_FL_X9_113 dX9_firstWrongOf_19 ?_
      refine V_iload_n C 3 dX9_firstWrongOf_22 rfl rfl ?_
      obtain ⟨a8, e7, h⟩ := bnd_s h
      refine W_callvi C cf_X5_at (c_X5_at (so_9_11 h0) e7) q_ML_X9_106 (ws_X5 (so_9_11 h0)) rfl dX9_firstWrongOf_23 (by decide) rfl rfl (Nat.le_of_ble_eq_true rfl) ?_
      refine V_iload_n C 1 dX9_firstWrongOf_26 rfl rfl ?_
      refine V_icmp_ne C dX9_firstWrongOf_27 rfl (fun c9 => ?_) (fun c9 => ?_)
      · replace h := ifn c9 h
        exact v_X9_firstWrongOf_60 C X ih h0 h
      · replace h := ifp c9 h
        refine V_iload_n C 2 dX9_firstWrongOf_30 rfl rfl ?_
        refine V_aload_n C 0 dX9_firstWrongOf_31 rfl rfl ?_
        refine G_X9_waiting (q := v0) C h0 q_FL_X9_63 dX9_firstWrongOf_32 ?_
        obtain ⟨a11, e10, h⟩ := bnd_s h
        refine W_callvi C cf_X5_size (c_X5_size (so_9_45 h0) e10) q_ML_X9_102 (ws_X5 (so_9_45 h0)) rfl dX9_firstWrongOf_35 (by decide) rfl rfl (Nat.le_of_ble_eq_true rfl) ?_
        refine V_icmp_ge C dX9_firstWrongOf_38 rfl (fun c12 => ?_) (fun c12 => ?_)
        · replace h := ifp c12 h
          refine V_sub C [2] rfl ?_
          exact v_X9_firstWrongOf_53 C X h
        · replace h := ifn c12 h
          refine V_aload_n C 0 dX9_firstWrongOf_41 rfl rfl ?_
          refine G_X9_waiting (q := v0) C h0 q_FL_X9_63 dX9_firstWrongOf_42 ?_
          refine V_iload_n C 2 dX9_firstWrongOf_45 rfl rfl ?_
          obtain ⟨a14, e13, h⟩ := bnd_s h
          refine W_callvi C cf_X5_at (c_X5_at (so_9_45 h0) e13) q_ML_X9_106 (ws_X5 (so_9_45 h0)) rfl dX9_firstWrongOf_46 (by decide) rfl rfl (Nat.le_of_ble_eq_true rfl) ?_
          refine V_iload_n C 3 dX9_firstWrongOf_49 rfl rfl ?_
          refine V_icmp_eq C dX9_firstWrongOf_50 rfl (fun c15 => ?_) (fun c15 => ?_)
          · replace h := ifp c15 h
            refine V_iinc (v := (v2 + 1)) (lv' := [(2, .int (v2 + 1)), (0, .ref (eA ε v0)), (1, .int v1), (3, .int v3)]) C 2 dX9_firstWrongOf_57 rfl (congrArg _ kc_i_1) (by decide) rfl ?_
            refine V_sub C [1, 2, 0, 3] rfl ?_
            exact v_X9_firstWrongOf_60 C X ih h0 h
          · replace h := ifn c15 h
            refine V_sub C [2] rfl ?_
            exact v_X9_firstWrongOf_53 C X h
def f_X9_firstWrongOf (N : Nat) (S : St) (v0 : Nat) (v1 : Int32) : Option Int32 :=
 f_X9_firstWrongOf_4 N S N v0 v1 (0 : Int32) (0 : Int32)
set_option maxRecDepth 20000 in
theorem v_X9_firstWrongOf_e {ε : eT} {κ : kT} {N : Nat} (C : Act ε κ cX9_firstWrongOf 4 RX9 3) {S : St} {res : Int32} (X : RI ε κ (some .int) (some (.int res)) S) {v0 : Nat} {v1 : Int32} (h0 : sh v0 = 9) (h : f_X9_firstWrongOf N S v0 v1 = some res) : V ε κ 4 0 [(0, .ref (eA ε v0)), (1, .int v1)] [] (wsOf ε S) 0 0 := by
  unfold f_X9_firstWrongOf at h
  refine V_iconst C dX9_firstWrongOf_0 kc_i_0 ?_
  refine V_istore_n (lv' := [(2, .int (0 : Int32)), (0, .ref (eA ε v0)), (1, .int v1)]) C dX9_firstWrongOf_1 rfl (by decide) rfl ?_
  refine V_iconst C dX9_firstWrongOf_2 kc_i_0 ?_
  refine V_istore_n (lv' := [(3, .int (0 : Int32)), (2, .int (0 : Int32)), (0, .ref (eA ε v0)), (1, .int v1)]) C dX9_firstWrongOf_3 rfl (by decide) rfl ?_
  refine V_sub C [2, 3, 1, 0] rfl ?_
  exact v_X9_firstWrongOf_4 C X N _ _ _ _ h0 h
theorem c_X9_firstWrongOf {ε : eT} {N : Nat} {S : St} {v0 : Nat} {v1 : Int32} {res : Int32} (h0 : sh v0 = 9) (h : f_X9_firstWrongOf N S v0 v1 = some res) : CI ε yX9_firstWrongOf cX9_firstWrongOf 4 (some .int) 3 [.ref (eA ε v0), .int v1] S (some (.int res)) S := CI_of (by decide) (Nat.le_of_ble_eq_true rfl) rfl (fun κ C X => v_X9_firstWrongOf_e C X h0 h)
def f_X9_goRound_143 (N : Nat) (S : St) (K24 : Nat → Int32 → Int32 → Int32 → Int32 → Int32 → Int32 → Int32 → Option Int32) (v0 : Nat) (v1 : Int32) (v2 : Int32) (v3 : Int32) (v4 : Int32) (v5 : Int32) (v6 : Int32) (v7 : Int32) : Option Int32 :=
 K24 v0 v1 v2 v3 v4 v5 v6 (v7 + 1)
set_option maxRecDepth 20000 in
theorem v_X9_goRound_143 {ε : eT} {κ : kT} {N : Nat} (C : Act ε κ cX9_goRound 11 RX9 3) {S : St} {res : Int32} (X : RI ε κ (some .int) (some (.int res)) S) {K24 : Nat → Int32 → Int32 → Int32 → Int32 → Int32 → Int32 → Int32 → Option Int32} (hK24 : ∀ (v0 : Nat) (v1 : Int32) (v2 : Int32) (v3 : Int32) (v4 : Int32) (v5 : Int32) (v6 : Int32) (v7 : Int32) (_ : sh v0 = 9), K24 v0 v1 v2 v3 v4 v5 v6 v7 = some res → V ε κ 11 24 [(0, .ref (eA ε v0)), (1, .int v1), (2, .int v2), (3, .int v3), (4, .int v4), (5, .int v5), (6, .int v6), (7, .int v7)] [] (wsOf ε S) 0 0) {v0 : Nat} {v1 : Int32} {v2 : Int32} {v3 : Int32} {v4 : Int32} {v5 : Int32} {v6 : Int32} {v7 : Int32} (h0 : sh v0 = 9) (h : f_X9_goRound_143 N S K24 v0 v1 v2 v3 v4 v5 v6 v7 = some res) : V ε κ 11 143 [(0, .ref (eA ε v0)), (1, .int v1), (2, .int v2), (3, .int v3), (4, .int v4), (5, .int v5), (6, .int v6), (7, .int v7)] [] (wsOf ε S) 0 0 := by
  unfold f_X9_goRound_143 at h
  refine V_iinc (v := (v7 + 1)) (lv' := [(7, .int (v7 + 1)), (0, .ref (eA ε v0)), (1, .int v1), (2, .int v2), (3, .int v3), (4, .int v4), (5, .int v5), (6, .int v6)]) C 7 dX9_goRound_143 rfl (congrArg _ kc_i_1) (by decide) rfl ?_
  refine V_goto C dX9_goRound_146 rfl ?_
  refine V_sub C [1, 2, 3, 4, 5, 6, 7, 0] rfl ?_
  exact hK24 _ _ _ _ _ _ _ _ h0 h
def f_X9_goRound_101 (N : Nat) (S : St) (K24 : Nat → Int32 → Int32 → Int32 → Int32 → Int32 → Int32 → Int32 → Option Int32) (v0 : Nat) (v1 : Int32) (v2 : Int32) (v3 : Int32) (v4 : Int32) (v5 : Int32) (v6 : Int32) (v7 : Int32) (v8 : Int32) (v9 : Int32) (s0 : Int32) : Option Int32 :=
 (if s0 = 0 then
 f_X9_goRound_143 N S K24 v0 v1 v2 v3 v4 v5 v6 v7
 else
 (if v9 ≤ 0 then
 f_X9_goRound_143 N S K24 v0 v1 v2 v3 v4 v5 v6 v7
 else
 (if v3 < v8 then
 f_X9_goRound_143 N S K24 v0 v1 v2 v3 v4 v5 v6 v7
 else
 f_X9_goRound_143 N S K24 v0 v1 v2 (v3 - v8) (v4 + 1) (v5 + v9) (v6 ||| ((1 : Int32) <<< (v7 &&& 31))) v7)))
set_option maxRecDepth 20000 in
theorem v_X9_goRound_101 {ε : eT} {κ : kT} {N : Nat} (C : Act ε κ cX9_goRound 11 RX9 3) {S : St} {res : Int32} (X : RI ε κ (some .int) (some (.int res)) S) {K24 : Nat → Int32 → Int32 → Int32 → Int32 → Int32 → Int32 → Int32 → Option Int32} (hK24 : ∀ (v0 : Nat) (v1 : Int32) (v2 : Int32) (v3 : Int32) (v4 : Int32) (v5 : Int32) (v6 : Int32) (v7 : Int32) (_ : sh v0 = 9), K24 v0 v1 v2 v3 v4 v5 v6 v7 = some res → V ε κ 11 24 [(0, .ref (eA ε v0)), (1, .int v1), (2, .int v2), (3, .int v3), (4, .int v4), (5, .int v5), (6, .int v6), (7, .int v7)] [] (wsOf ε S) 0 0) {v0 : Nat} {v1 : Int32} {v2 : Int32} {v3 : Int32} {v4 : Int32} {v5 : Int32} {v6 : Int32} {v7 : Int32} {v8 : Int32} {v9 : Int32} {s0 : Int32} (h0 : sh v0 = 9) (h : f_X9_goRound_101 N S K24 v0 v1 v2 v3 v4 v5 v6 v7 v8 v9 s0 = some res) : V ε κ 11 101 [(0, .ref (eA ε v0)), (1, .int v1), (2, .int v2), (3, .int v3), (4, .int v4), (5, .int v5), (6, .int v6), (7, .int v7), (8, .int v8), (9, .int v9)] [.int s0] (wsOf ε S) 0 0 := by
  unfold f_X9_goRound_101 at h
  refine V_istore (lv' := [(10, .int s0), (0, .ref (eA ε v0)), (1, .int v1), (2, .int v2), (3, .int v3), (4, .int v4), (5, .int v5), (6, .int v6), (7, .int v7), (8, .int v8), (9, .int v9)]) C dX9_goRound_101 (by decide) rfl ?_
  refine V_iload C 0 dX9_goRound_103 rfl ?_
  refine V_if_eq C dX9_goRound_105 rfl (fun c1 => ?_) (fun c1 => ?_)
  · replace h := ifp c1 h
    refine V_sub C [1, 2, 3, 4, 5, 6, 7, 8] rfl ?_
    exact v_X9_goRound_143 C X hK24 h0 h
  · replace h := ifn c1 h
    refine V_iload C 10 dX9_goRound_108 rfl ?_
    refine V_if_le C dX9_goRound_110 rfl (fun c2 => ?_) (fun c2 => ?_)
    · replace h := ifp c2 h
      refine V_sub C [1, 2, 3, 4, 5, 6, 7, 8] rfl ?_
      exact v_X9_goRound_143 C X hK24 h0 h
    · replace h := ifn c2 h
      refine V_iload_n C 4 dX9_goRound_113 rfl rfl ?_
      refine V_iload C 9 dX9_goRound_114 rfl ?_
      refine V_icmp_lt C dX9_goRound_116 rfl (fun c3 => ?_) (fun c3 => ?_)
      · replace h := ifp c3 h
        refine V_sub C [1, 2, 3, 4, 5, 6, 7, 8] rfl ?_
        exact v_X9_goRound_143 C X hK24 h0 h
      · replace h := ifn c3 h
        refine V_iload_n C 4 dX9_goRound_119 rfl rfl ?_
        refine V_iload C 9 dX9_goRound_120 rfl ?_
        refine V_isub C dX9_goRound_122 ?_
        refine V_istore_n (lv' := [(3, .int (v3 - v8)), (10, .int s0), (0, .ref (eA ε v0)), (1, .int v1), (2, .int v2), (4, .int v4), (5, .int v5), (6, .int v6), (7, .int v7), (8, .int v8), (9, .int v9)]) C dX9_goRound_123 rfl (by decide) rfl ?_
        refine V_iinc (v := (v4 + 1)) (lv' := [(4, .int (v4 + 1)), (3, .int (v3 - v8)), (10, .int s0), (0, .ref (eA ε v0)), (1, .int v1), (2, .int v2), (5, .int v5), (6, .int v6), (7, .int v7), (8, .int v8), (9, .int v9)]) C 5 dX9_goRound_124 rfl (congrArg _ kc_i_1) (by decide) rfl ?_
        refine V_iload C 6 dX9_goRound_127 rfl ?_
        refine V_iload C 10 dX9_goRound_129 rfl ?_
        refine V_iadd C dX9_goRound_131 ?_
        refine V_istore (lv' := [(5, .int (v5 + v9)), (4, .int (v4 + 1)), (3, .int (v3 - v8)), (10, .int s0), (0, .ref (eA ε v0)), (1, .int v1), (2, .int v2), (6, .int v6), (7, .int v7), (8, .int v8), (9, .int v9)]) C dX9_goRound_132 (by decide) rfl ?_
        refine V_iload C 7 dX9_goRound_134 rfl ?_
        refine V_iconst C dX9_goRound_136 kc_i_1 ?_
        refine V_iload C 8 dX9_goRound_137 rfl ?_
        refine V_ishl C dX9_goRound_139 ?_
        refine V_ior C dX9_goRound_140 ?_
        refine V_istore (lv' := [(6, .int (v6 ||| ((1 : Int32) <<< (v7 &&& 31)))), (5, .int (v5 + v9)), (4, .int (v4 + 1)), (3, .int (v3 - v8)), (10, .int s0), (0, .ref (eA ε v0)), (1, .int v1), (2, .int v2), (7, .int v7), (8, .int v8), (9, .int v9)]) C dX9_goRound_141 (by decide) rfl ?_
        refine V_sub C [5, 6, 7, 3, 2, 1, 0, 8] rfl ?_
        exact v_X9_goRound_143 C X hK24 h0 h
def f_X9_goRound_100 (N : Nat) (S : St) (K24 : Nat → Int32 → Int32 → Int32 → Int32 → Int32 → Int32 → Int32 → Option Int32) (v0 : Nat) (v1 : Int32) (v2 : Int32) (v3 : Int32) (v4 : Int32) (v5 : Int32) (v6 : Int32) (v7 : Int32) (v8 : Int32) (v9 : Int32) : Option Int32 :=
 f_X9_goRound_101 N S K24 v0 v1 v2 v3 v4 v5 v6 v7 v8 v9 (0 : Int32)
set_option maxRecDepth 20000 in
theorem v_X9_goRound_100 {ε : eT} {κ : kT} {N : Nat} (C : Act ε κ cX9_goRound 11 RX9 3) {S : St} {res : Int32} (X : RI ε κ (some .int) (some (.int res)) S) {K24 : Nat → Int32 → Int32 → Int32 → Int32 → Int32 → Int32 → Int32 → Option Int32} (hK24 : ∀ (v0 : Nat) (v1 : Int32) (v2 : Int32) (v3 : Int32) (v4 : Int32) (v5 : Int32) (v6 : Int32) (v7 : Int32) (_ : sh v0 = 9), K24 v0 v1 v2 v3 v4 v5 v6 v7 = some res → V ε κ 11 24 [(0, .ref (eA ε v0)), (1, .int v1), (2, .int v2), (3, .int v3), (4, .int v4), (5, .int v5), (6, .int v6), (7, .int v7)] [] (wsOf ε S) 0 0) {v0 : Nat} {v1 : Int32} {v2 : Int32} {v3 : Int32} {v4 : Int32} {v5 : Int32} {v6 : Int32} {v7 : Int32} {v8 : Int32} {v9 : Int32} (h0 : sh v0 = 9) (h : f_X9_goRound_100 N S K24 v0 v1 v2 v3 v4 v5 v6 v7 v8 v9 = some res) : V ε κ 11 100 [(0, .ref (eA ε v0)), (1, .int v1), (2, .int v2), (3, .int v3), (4, .int v4), (5, .int v5), (6, .int v6), (7, .int v7), (8, .int v8), (9, .int v9)] [] (wsOf ε S) 0 0 := by
  unfold f_X9_goRound_100 at h
  refine V_iconst C dX9_goRound_100 kc_i_0 ?_
  exact v_X9_goRound_101 C X hK24 h0 h
def f_X9_goRound_24 (N : Nat) (S : St) : Nat → Nat → Int32 → Int32 → Int32 → Int32 → Int32 → Int32 → Int32 → Option Int32
  | 0, _, _, _, _, _, _, _, _ => none
  | n + 1, v0, v1, v2, v3, v4, v5, v6, v7 =>
    bnd (f_X8_size S (v0 + 10)) (fun a2 =>
     (if a2 ≤ v7 then
     (if v2 = 0 then
     some v4
     else
     (if v2 = (1 : Int32) then
     some v5
     else
     some v6))
     else
     bnd (f_X5_at S (v0 + 13) v7) (fun a7 =>
     bnd (f_X8_valueOf S (v0 + 10) v1 v7) (fun a9 =>
     bnd (f_X5_at S (v0 + 11) v7) (fun a11 =>
     (if a11 = v1 then
     f_X9_goRound_100 N S (f_X9_goRound_24 N S n) v0 v1 v2 v3 v4 v5 v6 v7 a7 (a9 - a7)
     else
     bnd (f_X5_at S (v0 + 17) v7) (fun a14 =>
     (if a14 = 0 then
     f_X9_goRound_101 N S (f_X9_goRound_24 N S n) v0 v1 v2 v3 v4 v5 v6 v7 a7 (a9 - a7) (1 : Int32)
     else
     f_X9_goRound_100 N S (f_X9_goRound_24 N S n) v0 v1 v2 v3 v4 v5 v6 v7 a7 (a9 - a7)))))))))
set_option maxRecDepth 20000 in
theorem v_X9_goRound_24 {ε : eT} {κ : kT} {N : Nat} (C : Act ε κ cX9_goRound 11 RX9 3) {S : St} {res : Int32} (X : RI ε κ (some .int) (some (.int res)) S) : ∀ (n : Nat) (v0 : Nat) (v1 : Int32) (v2 : Int32) (v3 : Int32) (v4 : Int32) (v5 : Int32) (v6 : Int32) (v7 : Int32) (h0 : sh v0 = 9) (h : f_X9_goRound_24 N S n v0 v1 v2 v3 v4 v5 v6 v7 = some res), V ε κ 11 24 [(0, .ref (eA ε v0)), (1, .int v1), (2, .int v2), (3, .int v3), (4, .int v4), (5, .int v5), (6, .int v6), (7, .int v7)] [] (wsOf ε S) 0 0 := by
  intro n
  induction n with
  | zero => intro v0 v1 v2 v3 v4 v5 v6 v7 h0 h; cases h
  | succ n ih =>
    intro v0 v1 v2 v3 v4 v5 v6 v7 h0 h
    rw [f_X9_goRound_24] at h
    refine V_iload C 7 dX9_goRound_24 rfl ?_
    refine V_aload_n C 0 dX9_goRound_26 rfl rfl ?_
    refine G_X9_things (q := v0) C h0 q_FL_X9_21 dX9_goRound_27 ?_
    obtain ⟨a2, e1, h⟩ := bnd_s h
    refine W_callvi C cf_X8_size (c_X8_size (so_9_10 h0) e1) q_ML_X9_176 (ws_X8 (so_9_10 h0)) rfl dX9_goRound_30 (by decide) rfl rfl (Nat.le_of_ble_eq_true rfl) ?_
    refine V_icmp_ge C dX9_goRound_33 rfl (fun c3 => ?_) (fun c3 => ?_)
    · replace h := ifp c3 h
      refine V_iload_n C 2 dX9_goRound_149 rfl rfl ?_
      refine V_if_ne C dX9_goRound_150 rfl (fun c4 => ?_) (fun c4 => ?_)
      · replace h := ifn c4 h
        refine V_iload_n C 2 dX9_goRound_158 rfl rfl ?_
        refine V_iconst C dX9_goRound_159 kc_i_1 ?_
        refine V_icmp_ne C dX9_goRound_160 rfl (fun c5 => ?_) (fun c5 => ?_)
        · replace h := ifn c5 h
          refine V_iload C 6 dX9_goRound_168 rfl ?_
          exact V_iret C X dX9_goRound_170 ⟨rip_1 h, rfl⟩
        · replace h := ifp c5 h
          refine V_iload C 5 dX9_goRound_163 rfl ?_
          refine V_goto C dX9_goRound_165 rfl ?_
          exact V_iret C X dX9_goRound_170 ⟨rip_1 h, rfl⟩
      · replace h := ifp c4 h
        refine V_iload C 4 dX9_goRound_153 rfl ?_
        refine V_goto C dX9_goRound_155 rfl ?_
        exact V_iret C X dX9_goRound_170 ⟨rip_1 h, rfl⟩
    · replace h := ifn c3 h
      refine V_aload_n C 0 dX9_goRound_36 rfl rfl ?_
      refine G_X9_things (q := v0) C h0 q_FL_X9_21 dX9_goRound_37 ?_
      refine G_X8_prices (q := (v0 + 10)) C (so_9_10 h0) q_FL_X9_129 dX9_goRound_40 ?_
      refine V_iload C 7 dX9_goRound_43 rfl ?_
      obtain ⟨a7, e6, h⟩ := bnd_s h
      refine W_callvi C cf_X5_at (c_X5_at (so_9_13 h0) e6) q_ML_X9_106 (ws_X5 (so_9_13 h0)) rfl dX9_goRound_45 (by decide) rfl rfl (Nat.le_of_ble_eq_true rfl) ?_
      refine V_istore (lv' := [(8, .int a7), (0, .ref (eA ε v0)), (1, .int v1), (2, .int v2), (3, .int v3), (4, .int v4), (5, .int v5), (6, .int v6), (7, .int v7)]) C dX9_goRound_48 (by decide) rfl ?_
      refine V_aload_n C 1 dX9_goRound_50 rfl rfl ?_
      refine G_X9_things (q := v0) C h0 q_FL_X9_21 dX9_goRound_51 ?_
      refine V_iload_n C 2 dX9_goRound_54 rfl rfl ?_
      refine V_iload C 8 dX9_goRound_55 rfl ?_
      obtain ⟨a9, e8, h⟩ := bnd_s h
      refine W_callvi C cf_X8_valueOf (c_X8_valueOf (so_9_10 h0) e8) q_ML_X9_117 (ws_X8 (so_9_10 h0)) rfl dX9_goRound_57 (by decide) rfl rfl (Nat.le_of_ble_eq_true rfl) ?_
      refine V_iload C 0 dX9_goRound_60 rfl ?_
      refine V_isub C dX9_goRound_62 ?_
      refine V_istore (lv' := [(9, .int (a9 - a7)), (8, .int a7), (0, .ref (eA ε v0)), (1, .int v1), (2, .int v2), (3, .int v3), (4, .int v4), (5, .int v5), (6, .int v6), (7, .int v7)]) C dX9_goRound_63 (by decide) rfl ?_
      refine V_aload_n C 2 dX9_goRound_65 rfl rfl ?_
      refine G_X9_things (q := v0) C h0 q_FL_X9_21 dX9_goRound_66 ?_
      refine G_X8_owners (q := (v0 + 10)) C (so_9_10 h0) q_FL_X9_113 dX9_goRound_69 ?_
      refine V_iload C 9 dX9_goRound_72 rfl ?_
      obtain ⟨a11, e10, h⟩ := bnd_s h
      refine W_callvi C cf_X5_at (c_X5_at (so_9_11 h0) e10) q_ML_X9_106 (ws_X5 (so_9_11 h0)) rfl dX9_goRound_74 (by decide) rfl rfl (Nat.le_of_ble_eq_true rfl) ?_
      refine V_iload_n C 3 dX9_goRound_77 rfl rfl ?_
      refine V_icmp_eq C dX9_goRound_78 rfl (fun c12 => ?_) (fun c12 => ?_)
      · replace h := ifp c12 h
        refine V_sub C [2, 3, 4, 5, 6, 7, 8, 9, 1, 0] rfl ?_
        exact v_X9_goRound_100 C X ih h0 h
      · replace h := ifn c12 h
        refine V_aload_n C 2 dX9_goRound_81 rfl rfl ?_
        refine G_X9_things (q := v0) C h0 q_FL_X9_21 dX9_goRound_82 ?_
        refine G_X8_kept (q := (v0 + 10)) C (so_9_10 h0) q_FL_X9_183 dX9_goRound_85 ?_
        refine V_iload C 9 dX9_goRound_88 rfl ?_
        obtain ⟨a14, e13, h⟩ := bnd_s h
        refine W_callvi C cf_X5_at (c_X5_at (so_9_17 h0) e13) q_ML_X9_106 (ws_X5 (so_9_17 h0)) rfl dX9_goRound_90 (by decide) rfl rfl (Nat.le_of_ble_eq_true rfl) ?_
        refine V_if_ne C dX9_goRound_93 rfl (fun c15 => ?_) (fun c15 => ?_)
        · replace h := ifn c15 h
          refine V_sub C [2, 3, 4, 5, 6, 7, 8, 9, 1, 0] rfl ?_
          exact v_X9_goRound_100 C X ih h0 h
        · replace h := ifp c15 h
          refine V_iconst C dX9_goRound_96 kc_i_1 ?_
          refine V_goto C dX9_goRound_97 rfl ?_
          refine V_sub C [2, 3, 4, 5, 6, 7, 8, 9, 1, 0] rfl ?_
          exact v_X9_goRound_101 C X ih h0 h
def f_X9_goRound (N : Nat) (S : St) (v0 : Nat) (v1 : Int32) (v2 : Int32) : Option Int32 :=
 bnd (f_X5_at S (v0 + 4) v1) (fun a2 =>
 f_X9_goRound_24 N S N v0 v1 v2 a2 (0 : Int32) (0 : Int32) (0 : Int32) (0 : Int32))
set_option maxRecDepth 20000 in
theorem v_X9_goRound_e {ε : eT} {κ : kT} {N : Nat} (C : Act ε κ cX9_goRound 11 RX9 3) {S : St} {res : Int32} (X : RI ε κ (some .int) (some (.int res)) S) {v0 : Nat} {v1 : Int32} {v2 : Int32} (h0 : sh v0 = 9) (h : f_X9_goRound N S v0 v1 v2 = some res) : V ε κ 11 0 [(0, .ref (eA ε v0)), (1, .int v1), (2, .int v2)] [] (wsOf ε S) 0 0 := by
  unfold f_X9_goRound at h
  refine V_aload_n C 0 dX9_goRound_0 rfl rfl ?_
  refine G_X9_people (q := v0) C h0 q_FL_X9_12 dX9_goRound_1 ?_
  refine G_X3_purses (q := (v0 + 1)) C (so_9_1 h0) q_FL_X9_160 dX9_goRound_4 ?_
  refine V_iload_n C 1 dX9_goRound_7 rfl rfl ?_
  obtain ⟨a2, e1, h⟩ := bnd_s h
  refine W_callvi C cf_X5_at (c_X5_at (so_9_4 h0) e1) q_ML_X9_106 (ws_X5 (so_9_4 h0)) rfl dX9_goRound_8 (by decide) rfl rfl (Nat.le_of_ble_eq_true rfl) ?_
  refine V_istore_n (lv' := [(3, .int a2), (0, .ref (eA ε v0)), (1, .int v1), (2, .int v2)]) C dX9_goRound_11 rfl (by decide) rfl ?_
  refine V_iconst C dX9_goRound_12 kc_i_0 ?_
  refine V_istore (lv' := [(4, .int (0 : Int32)), (3, .int a2), (0, .ref (eA ε v0)), (1, .int v1), (2, .int v2)]) C dX9_goRound_13 (by decide) rfl ?_
  refine V_iconst C dX9_goRound_15 kc_i_0 ?_
  refine V_istore (lv' := [(5, .int (0 : Int32)), (4, .int (0 : Int32)), (3, .int a2), (0, .ref (eA ε v0)), (1, .int v1), (2, .int v2)]) C dX9_goRound_16 (by decide) rfl ?_
  refine V_iconst C dX9_goRound_18 kc_i_0 ?_
  refine V_istore (lv' := [(6, .int (0 : Int32)), (5, .int (0 : Int32)), (4, .int (0 : Int32)), (3, .int a2), (0, .ref (eA ε v0)), (1, .int v1), (2, .int v2)]) C dX9_goRound_19 (by decide) rfl ?_
  refine V_iconst C dX9_goRound_21 kc_i_0 ?_
  refine V_istore (lv' := [(7, .int (0 : Int32)), (6, .int (0 : Int32)), (5, .int (0 : Int32)), (4, .int (0 : Int32)), (3, .int a2), (0, .ref (eA ε v0)), (1, .int v1), (2, .int v2)]) C dX9_goRound_22 (by decide) rfl ?_
  refine V_sub C [5, 6, 7, 4, 3, 2, 1, 0] rfl ?_
  exact v_X9_goRound_24 C X N _ _ _ _ _ _ _ _ h0 h
theorem c_X9_goRound {ε : eT} {N : Nat} {S : St} {v0 : Nat} {v1 : Int32} {v2 : Int32} {res : Int32} (h0 : sh v0 = 9) (h : f_X9_goRound N S v0 v1 v2 = some res) : CI ε yX9_goRound cX9_goRound 11 (some .int) 3 [.ref (eA ε v0), .int v1, .int v2] S (some (.int res)) S := CI_of (by decide) (Nat.le_of_ble_eq_true rfl) rfl (fun κ C X => v_X9_goRound_e C X h0 h)
def f_X9_lackedBy_88 (N : Nat) (S : St) (K4 : Nat → Int32 → Int32 → Int32 → Option Int32) (v0 : Nat) (v1 : Int32) (v3 : Int32) (s0 : Int32) (s1 : Int32) : Option Int32 :=
 K4 v0 v1 (s1 ||| s0) (v3 + 1)
set_option maxRecDepth 20000 in
theorem v_X9_lackedBy_88 {ε : eT} {κ : kT} {N : Nat} (C : Act ε κ cX9_lackedBy 6 RX9 2) {S : St} {res : Int32} (X : RI ε κ (some .int) (some (.int res)) S) {K4 : Nat → Int32 → Int32 → Int32 → Option Int32} (hK4 : ∀ (v0 : Nat) (v1 : Int32) (v2 : Int32) (v3 : Int32) (_ : sh v0 = 9), K4 v0 v1 v2 v3 = some res → V ε κ 6 4 [(0, .ref (eA ε v0)), (1, .int v1), (2, .int v2), (3, .int v3)] [] (wsOf ε S) 0 0) {v0 : Nat} {v1 : Int32} {v3 : Int32} {s0 : Int32} {s1 : Int32} (h0 : sh v0 = 9) (h : f_X9_lackedBy_88 N S K4 v0 v1 v3 s0 s1 = some res) : V ε κ 6 88 [(0, .ref (eA ε v0)), (1, .int v1), (3, .int v3)] [.int s0, .int s1] (wsOf ε S) 0 0 := by
  unfold f_X9_lackedBy_88 at h
  refine V_ior C dX9_lackedBy_88 ?_
  refine V_istore_n (lv' := [(2, .int (s1 ||| s0)), (0, .ref (eA ε v0)), (1, .int v1), (3, .int v3)]) C dX9_lackedBy_89 rfl (by decide) rfl ?_
  refine V_iinc (v := (v3 + 1)) (lv' := [(3, .int (v3 + 1)), (2, .int (s1 ||| s0)), (0, .ref (eA ε v0)), (1, .int v1)]) C 3 dX9_lackedBy_90 rfl (congrArg _ kc_i_1) (by decide) rfl ?_
  refine V_goto C dX9_lackedBy_93 rfl ?_
  refine V_sub C [2, 3, 1, 0] rfl ?_
  exact hK4 _ _ _ _ h0 h
def f_X9_lackedBy_71 (N : Nat) (S : St) (K4 : Nat → Int32 → Int32 → Int32 → Option Int32) (v0 : Nat) (v1 : Int32) (v2 : Int32) (v3 : Int32) (v4 : Int32) (s0 : Int32) : Option Int32 :=
 (if v4 = s0 then
 f_X9_lackedBy_88 N S K4 v0 v1 v3 (0 : Int32) v2
 else
 f_X9_lackedBy_88 N S K4 v0 v1 v3 ((1 : Int32) <<< (v3 &&& 31)) v2)
set_option maxRecDepth 20000 in
theorem v_X9_lackedBy_71 {ε : eT} {κ : kT} {N : Nat} (C : Act ε κ cX9_lackedBy 6 RX9 2) {S : St} {res : Int32} (X : RI ε κ (some .int) (some (.int res)) S) {K4 : Nat → Int32 → Int32 → Int32 → Option Int32} (hK4 : ∀ (v0 : Nat) (v1 : Int32) (v2 : Int32) (v3 : Int32) (_ : sh v0 = 9), K4 v0 v1 v2 v3 = some res → V ε κ 6 4 [(0, .ref (eA ε v0)), (1, .int v1), (2, .int v2), (3, .int v3)] [] (wsOf ε S) 0 0) {v0 : Nat} {v1 : Int32} {v2 : Int32} {v3 : Int32} {v4 : Int32} {s0 : Int32} (h0 : sh v0 = 9) (h : f_X9_lackedBy_71 N S K4 v0 v1 v2 v3 v4 s0 = some res) : V ε κ 6 71 [(0, .ref (eA ε v0)), (1, .int v1), (2, .int v2), (3, .int v3), (4, .int v4)] [.int s0] (wsOf ε S) 0 0 := by
  unfold f_X9_lackedBy_71 at h
  refine V_istore (lv' := [(5, .int s0), (0, .ref (eA ε v0)), (1, .int v1), (2, .int v2), (3, .int v3), (4, .int v4)]) C dX9_lackedBy_71 (by decide) rfl ?_
  refine V_iload_n C 3 dX9_lackedBy_73 rfl rfl ?_
  refine V_iload C 5 dX9_lackedBy_74 rfl ?_
  refine V_iload C 0 dX9_lackedBy_76 rfl ?_
  refine V_icmp_eq C dX9_lackedBy_78 rfl (fun c1 => ?_) (fun c1 => ?_)
  · replace h := ifp c1 h
    refine V_iconst C dX9_lackedBy_87 kc_i_0 ?_
    refine V_sub C [1, 2, 4] rfl ?_
    exact v_X9_lackedBy_88 C X hK4 h0 h
  · replace h := ifn c1 h
    refine V_iconst C dX9_lackedBy_81 kc_i_1 ?_
    refine V_iload_n C 4 dX9_lackedBy_82 rfl rfl ?_
    refine V_ishl C dX9_lackedBy_83 ?_
    refine V_goto C dX9_lackedBy_84 rfl ?_
    refine V_sub C [1, 2, 4] rfl ?_
    exact v_X9_lackedBy_88 C X hK4 h0 h
def f_X9_lackedBy_42 (N : Nat) (S : St) (K4 : Nat → Int32 → Int32 → Int32 → Option Int32) (v0 : Nat) (v1 : Int32) (v2 : Int32) (v3 : Int32) (s0 : Int32) : Option Int32 :=
 bnd (f_X5_at S (v0 + 23) v3) (fun a2 =>
 bnd (f_X5_at S (v0 + 11) a2) (fun a4 =>
 (if a4 = v1 then
 f_X9_lackedBy_71 N S K4 v0 v1 v2 v3 s0 (1 : Int32)
 else
 f_X9_lackedBy_71 N S K4 v0 v1 v2 v3 s0 (0 : Int32))))
set_option maxRecDepth 20000 in
theorem v_X9_lackedBy_42 {ε : eT} {κ : kT} {N : Nat} (C : Act ε κ cX9_lackedBy 6 RX9 2) {S : St} {res : Int32} (X : RI ε κ (some .int) (some (.int res)) S) {K4 : Nat → Int32 → Int32 → Int32 → Option Int32} (hK4 : ∀ (v0 : Nat) (v1 : Int32) (v2 : Int32) (v3 : Int32) (_ : sh v0 = 9), K4 v0 v1 v2 v3 = some res → V ε κ 6 4 [(0, .ref (eA ε v0)), (1, .int v1), (2, .int v2), (3, .int v3)] [] (wsOf ε S) 0 0) {v0 : Nat} {v1 : Int32} {v2 : Int32} {v3 : Int32} {s0 : Int32} (h0 : sh v0 = 9) (h : f_X9_lackedBy_42 N S K4 v0 v1 v2 v3 s0 = some res) : V ε κ 6 42 [(0, .ref (eA ε v0)), (1, .int v1), (2, .int v2), (3, .int v3)] [.int s0] (wsOf ε S) 0 0 := by
  unfold f_X9_lackedBy_42 at h
  refine V_istore (lv' := [(4, .int s0), (0, .ref (eA ε v0)), (1, .int v1), (2, .int v2), (3, .int v3)]) C dX9_lackedBy_42 (by decide) rfl ?_
  refine V_aload_n C 1 dX9_lackedBy_44 rfl rfl ?_
  refine G_X9_things (q := v0) C h0 q_FL_X9_21 dX9_lackedBy_45 ?_
  refine G_X8_owners (q := (v0 + 10)) C (so_9_10 h0) q_FL_X9_113 dX9_lackedBy_48 ?_
  refine V_aload_n C 1 dX9_lackedBy_51 rfl rfl ?_
  refine G_X9_others (q := v0) C h0 q_FL_X9_34 dX9_lackedBy_52 ?_
  refine V_iload_n C 4 dX9_lackedBy_55 rfl rfl ?_
  obtain ⟨a2, e1, h⟩ := bnd_s h
  refine W_callvi C cf_X5_at (c_X5_at (so_9_23 h0) e1) q_ML_X9_106 (ws_X5 (so_9_23 h0)) rfl dX9_lackedBy_56 (by decide) rfl rfl (Nat.le_of_ble_eq_true rfl) ?_
  obtain ⟨a4, e3, h⟩ := bnd_s h
  refine W_callvi C cf_X5_at (c_X5_at (so_9_11 h0) e3) q_ML_X9_106 (ws_X5 (so_9_11 h0)) rfl dX9_lackedBy_59 (by decide) rfl rfl (Nat.le_of_ble_eq_true rfl) ?_
  refine V_iload_n C 2 dX9_lackedBy_62 rfl rfl ?_
  refine V_icmp_ne C dX9_lackedBy_63 rfl (fun c5 => ?_) (fun c5 => ?_)
  · replace h := ifn c5 h
    refine V_iconst C dX9_lackedBy_70 kc_i_0 ?_
    refine V_sub C [1, 2, 3, 4, 0] rfl ?_
    exact v_X9_lackedBy_71 C X hK4 h0 h
  · replace h := ifp c5 h
    refine V_iconst C dX9_lackedBy_66 kc_i_1 ?_
    refine V_goto C dX9_lackedBy_67 rfl ?_
    refine V_sub C [1, 2, 3, 4, 0] rfl ?_
    exact v_X9_lackedBy_71 C X hK4 h0 h
def f_X9_lackedBy_4 (N : Nat) (S : St) : Nat → Nat → Int32 → Int32 → Int32 → Option Int32
  | 0, _, _, _, _ => none
  | n + 1, v0, v1, v2, v3 =>
    bnd (f_X5_size S (v0 + 25)) (fun a2 =>
     (if a2 ≤ v3 then
     some v2
     else
     bnd (f_X5_at S (v0 + 21) v3) (fun a5 =>
     bnd (f_X5_at S (v0 + 11) a5) (fun a7 =>
     (if a7 = v1 then
     f_X9_lackedBy_42 N S (f_X9_lackedBy_4 N S n) v0 v1 v2 v3 (1 : Int32)
     else
     f_X9_lackedBy_42 N S (f_X9_lackedBy_4 N S n) v0 v1 v2 v3 (0 : Int32))))))
set_option maxRecDepth 20000 in
theorem v_X9_lackedBy_4 {ε : eT} {κ : kT} {N : Nat} (C : Act ε κ cX9_lackedBy 6 RX9 2) {S : St} {res : Int32} (X : RI ε κ (some .int) (some (.int res)) S) : ∀ (n : Nat) (v0 : Nat) (v1 : Int32) (v2 : Int32) (v3 : Int32) (h0 : sh v0 = 9) (h : f_X9_lackedBy_4 N S n v0 v1 v2 v3 = some res), V ε κ 6 4 [(0, .ref (eA ε v0)), (1, .int v1), (2, .int v2), (3, .int v3)] [] (wsOf ε S) 0 0 := by
  intro n
  induction n with
  | zero => intro v0 v1 v2 v3 h0 h; cases h
  | succ n ih =>
    intro v0 v1 v2 v3 h0 h
    rw [f_X9_lackedBy_4] at h
    refine V_iload_n C 3 dX9_lackedBy_4 rfl rfl ?_
    refine V_aload_n C 0 dX9_lackedBy_5 rfl rfl ?_
    refine G_X9_bonuses (q := v0) C h0 q_FL_X9_37 dX9_lackedBy_6 ?_
    obtain ⟨a2, e1, h⟩ := bnd_s h
    refine W_callvi C cf_X5_size (c_X5_size (so_9_25 h0) e1) q_ML_X9_102 (ws_X5 (so_9_25 h0)) rfl dX9_lackedBy_9 (by decide) rfl rfl (Nat.le_of_ble_eq_true rfl) ?_
    refine V_icmp_ge C dX9_lackedBy_12 rfl (fun c3 => ?_) (fun c3 => ?_)
    · replace h := ifp c3 h
      refine V_iload_n C 2 dX9_lackedBy_96 rfl rfl ?_
      exact V_iret C X dX9_lackedBy_97 ⟨rip_1 h, rfl⟩
    · replace h := ifn c3 h
      refine V_aload_n C 0 dX9_lackedBy_15 rfl rfl ?_
      refine G_X9_things (q := v0) C h0 q_FL_X9_21 dX9_lackedBy_16 ?_
      refine G_X8_owners (q := (v0 + 10)) C (so_9_10 h0) q_FL_X9_113 dX9_lackedBy_19 ?_
      refine V_aload_n C 0 dX9_lackedBy_22 rfl rfl ?_
      refine G_X9_ones (q := v0) C h0 q_FL_X9_30 dX9_lackedBy_23 ?_
      refine V_iload_n C 3 dX9_lackedBy_26 rfl rfl ?_
      obtain ⟨a5, e4, h⟩ := bnd_s h
      refine W_callvi C cf_X5_at (c_X5_at (so_9_21 h0) e4) q_ML_X9_106 (ws_X5 (so_9_21 h0)) rfl dX9_lackedBy_27 (by decide) rfl rfl (Nat.le_of_ble_eq_true rfl) ?_
      obtain ⟨a7, e6, h⟩ := bnd_s h
      refine W_callvi C cf_X5_at (c_X5_at (so_9_11 h0) e6) q_ML_X9_106 (ws_X5 (so_9_11 h0)) rfl dX9_lackedBy_30 (by decide) rfl rfl (Nat.le_of_ble_eq_true rfl) ?_
      refine V_iload_n C 1 dX9_lackedBy_33 rfl rfl ?_
      refine V_icmp_ne C dX9_lackedBy_34 rfl (fun c8 => ?_) (fun c8 => ?_)
      · replace h := ifn c8 h
        refine V_iconst C dX9_lackedBy_41 kc_i_0 ?_
        exact v_X9_lackedBy_42 C X ih h0 h
      · replace h := ifp c8 h
        refine V_iconst C dX9_lackedBy_37 kc_i_1 ?_
        refine V_goto C dX9_lackedBy_38 rfl ?_
        exact v_X9_lackedBy_42 C X ih h0 h
def f_X9_lackedBy (N : Nat) (S : St) (v0 : Nat) (v1 : Int32) : Option Int32 :=
 f_X9_lackedBy_4 N S N v0 v1 (0 : Int32) (0 : Int32)
set_option maxRecDepth 20000 in
theorem v_X9_lackedBy_e {ε : eT} {κ : kT} {N : Nat} (C : Act ε κ cX9_lackedBy 6 RX9 2) {S : St} {res : Int32} (X : RI ε κ (some .int) (some (.int res)) S) {v0 : Nat} {v1 : Int32} (h0 : sh v0 = 9) (h : f_X9_lackedBy N S v0 v1 = some res) : V ε κ 6 0 [(0, .ref (eA ε v0)), (1, .int v1)] [] (wsOf ε S) 0 0 := by
  unfold f_X9_lackedBy at h
  refine V_iconst C dX9_lackedBy_0 kc_i_0 ?_
  refine V_istore_n (lv' := [(2, .int (0 : Int32)), (0, .ref (eA ε v0)), (1, .int v1)]) C dX9_lackedBy_1 rfl (by decide) rfl ?_
  refine V_iconst C dX9_lackedBy_2 kc_i_0 ?_
  refine V_istore_n (lv' := [(3, .int (0 : Int32)), (2, .int (0 : Int32)), (0, .ref (eA ε v0)), (1, .int v1)]) C dX9_lackedBy_3 rfl (by decide) rfl ?_
  refine V_sub C [2, 3, 1, 0] rfl ?_
  exact v_X9_lackedBy_4 C X N _ _ _ _ h0 h
theorem c_X9_lackedBy {ε : eT} {N : Nat} {S : St} {v0 : Nat} {v1 : Int32} {res : Int32} (h0 : sh v0 = 9) (h : f_X9_lackedBy N S v0 v1 = some res) : CI ε yX9_lackedBy cX9_lackedBy 6 (some .int) 2 [.ref (eA ε v0), .int v1] S (some (.int res)) S := CI_of (by decide) (Nat.le_of_ble_eq_true rfl) rfl (fun κ C X => v_X9_lackedBy_e C X h0 h)
def f_X10_bodyOf (S : St) (v0 : Int32) (v1 : Int32) : Option Int32 :=
 (if v0 < 0 then
 some (0 : Int32)
 else
 (if ((v0 * (4 : Int32)) + v1) < 0 then
 some (0 : Int32)
 else
 (if (Int32.ofNat 28) ≤ ((v0 * (4 : Int32)) + v1) then
 some (0 : Int32)
 else
 (if inb ((v0 * (4 : Int32)) + v1) 28 = true then
 some (kBo ((v0 * (4 : Int32)) + v1).toNatClampNeg)
 else none))))
set_option maxRecDepth 20000 in
theorem v_X10_bodyOf_e {ε : eT} {κ : kT} (C : Act ε κ cX10_bodyOf 3 RX10 1) {S : St} {res : Int32} (X : RI ε κ (some .int) (some (.int res)) S) {v0 : Int32} {v1 : Int32} (h : f_X10_bodyOf S v0 v1 = some res) : V ε κ 3 0 [(0, .int v0), (1, .int v1)] [] (wsOf ε S) 0 0 := by
  unfold f_X10_bodyOf at h
  refine V_iload_n C 0 dX10_bodyOf_0 rfl rfl ?_
  refine V_iconst C dX10_bodyOf_1 kc_i_4 ?_
  refine V_imul C dX10_bodyOf_2 ?_
  refine V_iload_n C 1 dX10_bodyOf_3 rfl rfl ?_
  refine V_iadd C dX10_bodyOf_4 ?_
  refine V_istore_n (lv' := [(2, .int ((v0 * (4 : Int32)) + v1)), (0, .int v0), (1, .int v1)]) C dX10_bodyOf_5 rfl (by decide) rfl ?_
  refine V_iload_n C 1 dX10_bodyOf_6 rfl rfl ?_
  refine V_if_lt C dX10_bodyOf_7 rfl (fun c1 => ?_) (fun c1 => ?_)
  · replace h := ifp c1 h
    refine V_iconst C dX10_bodyOf_30 kc_i_0 ?_
    exact V_iret C X dX10_bodyOf_31 ⟨rip_1 h, rfl⟩
  · replace h := ifn c1 h
    refine V_iload_n C 0 dX10_bodyOf_10 rfl rfl ?_
    refine V_if_lt C dX10_bodyOf_11 rfl (fun c2 => ?_) (fun c2 => ?_)
    · replace h := ifp c2 h
      refine V_iconst C dX10_bodyOf_30 kc_i_0 ?_
      exact V_iret C X dX10_bodyOf_31 ⟨rip_1 h, rfl⟩
    · replace h := ifn c2 h
      refine V_iload_n C 0 dX10_bodyOf_14 rfl rfl ?_
      refine V_gets C C.2.2.2.2.1.2.2.1 q_FL_X10_69 dX10_bodyOf_15 ?_
      refine V_tlen C C.2.2.2.2.1.2.2.2.1 dX10_bodyOf_18 ?_
      refine V_icmp_ge C dX10_bodyOf_19 rfl (fun c3 => ?_) (fun c3 => ?_)
      · replace h := ifp c3 h
        refine V_iconst C dX10_bodyOf_30 kc_i_0 ?_
        exact V_iret C X dX10_bodyOf_31 ⟨rip_1 h, rfl⟩
      · replace h := ifn c3 h
        refine V_gets C C.2.2.2.2.1.2.2.1 q_FL_X10_69 dX10_bodyOf_22 ?_
        refine V_iload_n C 0 dX10_bodyOf_25 rfl rfl ?_
        obtain ⟨g4, h⟩ := gdt h
        refine V_ti C C.2.2.2.2.1.2.2.2.1 (inb_in g4) dX10_bodyOf_26 ?_
        refine V_goto C dX10_bodyOf_27 rfl ?_
        exact V_iret C X dX10_bodyOf_31 ⟨rip_1 h, rfl⟩
theorem c_X10_bodyOf {ε : eT} {S : St} {v0 : Int32} {v1 : Int32} {res : Int32} (h : f_X10_bodyOf S v0 v1 = some res) : CI ε yX10_bodyOf cX10_bodyOf 3 (some .int) 1 [.int v0, .int v1] S (some (.int res)) S := CI_of (by decide) (Nat.le_of_ble_eq_true rfl) rfl (fun κ C X => v_X10_bodyOf_e C X h)
def f_X10_minded (S : St) (v1 : Int32) : Option (Int32 × St) :=
 (if ((S.1 154 4) - (S.1 154 3)) = 0 then
 some ((0 : Int32), (pt S 154 1 (1 : Int32)))
 else
 (if ((S.1 154 4) - (S.1 154 3)) = 0 then none else
 some ((v1 / ((S.1 154 4) - (S.1 154 3))), S)))
set_option maxRecDepth 20000 in
theorem v_X10_minded_e {ε : eT} {κ : kT} (C : Act ε κ cX10_minded 3 RX10 1) {S : St} {res : (Int32 × St)} (X : RI ε κ (some .int) (some (.int res.1)) res.2) {v1 : Int32} (h : f_X10_minded S v1 = some res) : V ε κ 3 0 [(0, .ref (eA ε 154)), (1, .int v1)] [] (wsOf ε S) 0 0 := by
  unfold f_X10_minded at h
  refine V_aload_n C 0 dX10_minded_0 rfl rfl ?_
  refine G_X10_p (q := 154) C sk_154 q_FL_X10_44 dX10_minded_1 ?_
  refine V_aload_n C 0 dX10_minded_4 rfl rfl ?_
  refine G_X10_n (q := 154) C sk_154 q_FL_X10_38 dX10_minded_5 ?_
  refine V_isub C dX10_minded_8 ?_
  refine V_istore_n (lv' := [(2, .int ((S.1 154 4) - (S.1 154 3))), (0, .ref (eA ε 154)), (1, .int v1)]) C dX10_minded_9 rfl (by decide) rfl ?_
  refine V_iload_n C 0 dX10_minded_10 rfl rfl ?_
  refine V_if_ne C dX10_minded_11 rfl (fun c1 => ?_) (fun c1 => ?_)
  · replace h := ifn c1 h
    refine V_iload_n C 2 dX10_minded_21 rfl rfl ?_
    refine V_iload_n C 0 dX10_minded_22 rfl rfl ?_
    obtain ⟨g2, h⟩ := gdf h
    refine V_idiv C dX10_minded_23 g2 ?_
    exact V_iret C X dX10_minded_24 ⟨ri_1 h, ri_2 h⟩
  · replace h := ifp c1 h
    refine V_aload_n C 1 dX10_minded_14 rfl rfl ?_
    refine V_iconst C dX10_minded_15 kc_i_1 ?_
    refine P_X10_parted (q := 154) C nb_1 fb_1 sk_154 q_FL_X10_21 dX10_minded_16 ?_
    refine V_iconst C dX10_minded_19 kc_i_0 ?_
    exact V_iret C X dX10_minded_20 ⟨ri_1 h, ri_2 h⟩
theorem c_X10_minded {ε : eT} {S : St} {v1 : Int32} {res : (Int32 × St)} (h : f_X10_minded S v1 = some res) : CI ε yX10_minded cX10_minded 3 (some .int) 1 [.ref (eA ε 154), .int v1] S (some (.int res.1)) res.2 := CI_of (by decide) (Nat.le_of_ble_eq_true rfl) rfl (fun κ C X => v_X10_minded_e C X h)
