def f_X11_move_24 (S : St) : Option (Int32 × St) :=
 bnd2 (f_X11_fail S (1 : Int32)) (fun a2 S3 =>
 some (a2, S3))
set_option maxRecDepth 20000 in
theorem v_X11_move_24 {ε : eT} {κ : kT} (C : Act ε κ cX11_move 8 RX11 3) {S : St} {res : (Int32 × St)} (X : RI ε κ (some .int) (some (.int res.1)) res.2) (h : f_X11_move_24 S = some res) : V ε κ 8 24 [(0, .ref (eA ε 0))] [] (wsOf ε S) 0 0 := by
  unfold f_X11_move_24 at h
  refine V_aload_n C 0 dX11_move_24 rfl rfl ?_
  refine V_iconst C dX11_move_25 kc_i_1 ?_
  obtain ⟨a2, S3, e1, h⟩ := bnd2_s h
  refine W_callvi C cf_X11_fail (c_X11_fail e1) q_ML_X11_82 (ws_X11 sk_0) rfl dX11_move_26 (by decide) rfl rfl (Nat.le_of_ble_eq_true rfl) ?_
  exact V_iret C X dX11_move_29 ⟨ri_1 h, ri_2 h⟩
def f_X11_move_46 (S : St) : Option (Int32 × St) :=
 bnd2 (f_X11_fail S (2 : Int32)) (fun a2 S3 =>
 some (a2, S3))
set_option maxRecDepth 20000 in
theorem v_X11_move_46 {ε : eT} {κ : kT} (C : Act ε κ cX11_move 8 RX11 3) {S : St} {res : (Int32 × St)} (X : RI ε κ (some .int) (some (.int res.1)) res.2) (h : f_X11_move_46 S = some res) : V ε κ 8 46 [(0, .ref (eA ε 0))] [] (wsOf ε S) 0 0 := by
  unfold f_X11_move_46 at h
  refine V_aload_n C 0 dX11_move_46 rfl rfl ?_
  refine V_iconst C dX11_move_47 kc_i_2 ?_
  obtain ⟨a2, S3, e1, h⟩ := bnd2_s h
  refine W_callvi C cf_X11_fail (c_X11_fail e1) q_ML_X11_82 (ws_X11 sk_0) rfl dX11_move_48 (by decide) rfl rfl (Nat.le_of_ble_eq_true rfl) ?_
  exact V_iret C X dX11_move_51 ⟨ri_1 h, ri_2 h⟩
def f_X11_move_94 (S : St) : Option (Int32 × St) :=
 bnd2 (f_X11_fail S (1 : Int32)) (fun a2 S3 =>
 some (a2, S3))
set_option maxRecDepth 20000 in
theorem v_X11_move_94 {ε : eT} {κ : kT} (C : Act ε κ cX11_move 8 RX11 3) {S : St} {res : (Int32 × St)} (X : RI ε κ (some .int) (some (.int res.1)) res.2) (h : f_X11_move_94 S = some res) : V ε κ 8 94 [(0, .ref (eA ε 0))] [] (wsOf ε S) 0 0 := by
  unfold f_X11_move_94 at h
  refine V_aload_n C 0 dX11_move_94 rfl rfl ?_
  refine V_iconst C dX11_move_95 kc_i_1 ?_
  obtain ⟨a2, S3, e1, h⟩ := bnd2_s h
  refine W_callvi C cf_X11_fail (c_X11_fail e1) q_ML_X11_82 (ws_X11 sk_0) rfl dX11_move_96 (by decide) rfl rfl (Nat.le_of_ble_eq_true rfl) ?_
  exact V_iret C X dX11_move_99 ⟨ri_1 h, ri_2 h⟩
def f_X11_move (S : St) (v1 : Int32) (v2 : Int32) (v3 : Int32) (v4 : Int32) (v5 : Int32) : Option (Int32 × St) :=
 bnd (f_X11_sheetAt S v1) (fun o4 => oel o4
 (bnd (f_X11_sheetAt S v3) (fun o30 => oel o30
 (f_X11_move_24 S)
 (fun a28 => (if sh a28 = 6 then
 f_X11_move_24 S
 else none))))
 (fun a2 => (if sh a2 = 6 then
 bnd (f_X11_sheetAt S v3) (fun o8 => oel o8
 (f_X11_move_24 S)
 (fun a6 => (if sh a6 = 6 then
 bnd (f_X6_isMissing S a2) (fun a10 =>
 (if a10 = 0 then
 bnd (f_X6_isMissing S a6) (fun a13 =>
 (if a13 = 0 then
 (if (S.1 a2 1) = (S.1 a6 1) then
 bnd (f_X6_holds S a2 v2 v5) (fun a17 =>
 (if a17 = 0 then
 f_X11_move_94 S
 else
 bnd (f_X6_holds S a6 v4 v5) (fun a20 =>
 (if a20 = 0 then
 f_X11_move_94 S
 else
 bnd (f_X5_take S (a6 + 1) (a2 + 1) v2 v4 v5) (fun S23 =>
 some (v5, S23))))))
 else
 bnd2 (f_X11_fail S (5 : Int32)) (fun a25 S26 =>
 some (a25, S26)))
 else
 f_X11_move_46 S))
 else
 f_X11_move_46 S))
 else none)))
 else none)))
set_option maxRecDepth 20000 in
theorem v_X11_move_e {ε : eT} {κ : kT} (C : Act ε κ cX11_move 8 RX11 3) {S : St} {res : (Int32 × St)} (X : RI ε κ (some .int) (some (.int res.1)) res.2) {v1 : Int32} {v2 : Int32} {v3 : Int32} {v4 : Int32} {v5 : Int32} (h : f_X11_move S v1 v2 v3 v4 v5 = some res) : V ε κ 8 0 [(0, .ref (eA ε 0)), (1, .int v1), (2, .int v2), (3, .int v3), (4, .int v4), (5, .int v5)] [] (wsOf ε S) 0 0 := by
  unfold f_X11_move at h
  refine V_aload_n C 0 dX11_move_0 rfl rfl ?_
  refine V_iload_n C 1 dX11_move_1 rfl rfl ?_
  obtain ⟨o4, e1, h⟩ := bnd_s h
  cases o4 with
  | none =>
    replace h := oel_n h
    refine W_callvz C cf_X11_sheetAt (c_X11_sheetAt e1) q_ML_X11_302 (ws_X11 sk_0) rfl dX11_move_2 (by decide) rfl rfl (Nat.le_of_ble_eq_true rfl) ?_
    refine V_astoreN (lv' := [(6, .null), (0, .ref (eA ε 0)), (1, .int v1), (2, .int v2), (3, .int v3), (4, .int v4), (5, .int v5)]) C dX11_move_5 (by decide) rfl ?_
    refine V_aload_n C 1 dX11_move_7 rfl rfl ?_
    refine V_iload_n C 4 dX11_move_8 rfl rfl ?_
    obtain ⟨o30, e27, h⟩ := bnd_s h
    cases o30 with
    | none =>
      replace h := oel_n h
      refine W_callvz C cf_X11_sheetAt (c_X11_sheetAt e27) q_ML_X11_302 (ws_X11 sk_0) rfl dX11_move_9 (by decide) rfl rfl (Nat.le_of_ble_eq_true rfl) ?_
      refine V_astoreN (lv' := [(7, .null), (6, .null), (0, .ref (eA ε 0)), (1, .int v1), (2, .int v2), (3, .int v3), (4, .int v4), (5, .int v5)]) C dX11_move_12 (by decide) rfl ?_
      refine V_aloadN C 1 dX11_move_14 rfl ?_
      refine V_ifnullN C dX11_move_16 rfl ?_
      refine V_sub C [2] rfl ?_
      exact v_X11_move_24 C X h
    | some a28 =>
      replace h := oel_s h
      obtain ⟨hq29, h⟩ := gdt h
      refine W_callva C cf_X11_sheetAt (c_X11_sheetAt e27) q_ML_X11_302 (ws_X11 sk_0) rfl dX11_move_9 (by decide) rfl rfl (Nat.le_of_ble_eq_true rfl) ?_
      refine V_astore (lv' := [(7, .ref (eA ε a28)), (6, .null), (0, .ref (eA ε 0)), (1, .int v1), (2, .int v2), (3, .int v3), (4, .int v4), (5, .int v5)]) C dX11_move_12 (by decide) rfl ?_
      refine V_aloadN C 1 dX11_move_14 rfl ?_
      refine V_ifnullN C dX11_move_16 rfl ?_
      refine V_sub C [2] rfl ?_
      exact v_X11_move_24 C X h
  | some a2 =>
    replace h := oel_s h
    obtain ⟨hq3, h⟩ := gdt h
    refine W_callva C cf_X11_sheetAt (c_X11_sheetAt e1) q_ML_X11_302 (ws_X11 sk_0) rfl dX11_move_2 (by decide) rfl rfl (Nat.le_of_ble_eq_true rfl) ?_
    refine V_astore (lv' := [(6, .ref (eA ε a2)), (0, .ref (eA ε 0)), (1, .int v1), (2, .int v2), (3, .int v3), (4, .int v4), (5, .int v5)]) C dX11_move_5 (by decide) rfl ?_
    refine V_aload_n C 1 dX11_move_7 rfl rfl ?_
    refine V_iload_n C 4 dX11_move_8 rfl rfl ?_
    obtain ⟨o8, e5, h⟩ := bnd_s h
    cases o8 with
    | none =>
      replace h := oel_n h
      refine W_callvz C cf_X11_sheetAt (c_X11_sheetAt e5) q_ML_X11_302 (ws_X11 sk_0) rfl dX11_move_9 (by decide) rfl rfl (Nat.le_of_ble_eq_true rfl) ?_
      refine V_astoreN (lv' := [(7, .null), (6, .ref (eA ε a2)), (0, .ref (eA ε 0)), (1, .int v1), (2, .int v2), (3, .int v3), (4, .int v4), (5, .int v5)]) C dX11_move_12 (by decide) rfl ?_
      refine V_aload C 1 dX11_move_14 rfl ?_
      refine V_ifnull C dX11_move_16 ?_
      refine V_aloadN C 0 dX11_move_19 rfl ?_
      refine V_ifnonnullN C dX11_move_21 ?_
      refine V_sub C [2] rfl ?_
      exact v_X11_move_24 C X h
    | some a6 =>
      replace h := oel_s h
      obtain ⟨hq7, h⟩ := gdt h
      refine W_callva C cf_X11_sheetAt (c_X11_sheetAt e5) q_ML_X11_302 (ws_X11 sk_0) rfl dX11_move_9 (by decide) rfl rfl (Nat.le_of_ble_eq_true rfl) ?_
      refine V_astore (lv' := [(7, .ref (eA ε a6)), (6, .ref (eA ε a2)), (0, .ref (eA ε 0)), (1, .int v1), (2, .int v2), (3, .int v3), (4, .int v4), (5, .int v5)]) C dX11_move_12 (by decide) rfl ?_
      refine V_aload C 1 dX11_move_14 rfl ?_
      refine V_ifnull C dX11_move_16 ?_
      refine V_aload C 0 dX11_move_19 rfl ?_
      refine V_ifnonnull C dX11_move_21 rfl ?_
      refine V_aload C 1 dX11_move_30 rfl ?_
      obtain ⟨a10, e9, h⟩ := bnd_s h
      refine W_callvi C cf_X6_isMissing (c_X6_isMissing hq3 e9) q_ML_X11_312 (ws_X6 hq3) rfl dX11_move_32 (by decide) rfl rfl (Nat.le_of_ble_eq_true rfl) ?_
      refine V_if_ne C dX11_move_35 rfl (fun c11 => ?_) (fun c11 => ?_)
      · replace h := ifn c11 h
        refine V_sub C [2] rfl ?_
        exact v_X11_move_46 C X h
      · replace h := ifp c11 h
        refine V_aload C 0 dX11_move_38 rfl ?_
        obtain ⟨a13, e12, h⟩ := bnd_s h
        refine W_callvi C cf_X6_isMissing (c_X6_isMissing hq7 e12) q_ML_X11_312 (ws_X6 hq7) rfl dX11_move_40 (by decide) rfl rfl (Nat.le_of_ble_eq_true rfl) ?_
        refine V_if_eq C dX11_move_43 rfl (fun c14 => ?_) (fun c14 => ?_)
        · replace h := ifp c14 h
          refine V_aload C 1 dX11_move_52 rfl ?_
          refine G_X6_bits (q := a2) C hq3 q_FL_X11_321 dX11_move_54 ?_
          refine V_aload C 0 dX11_move_57 rfl ?_
          refine G_X6_bits (q := a6) C hq7 q_FL_X11_321 dX11_move_59 ?_
          refine V_icmp_eq C dX11_move_62 rfl (fun c15 => ?_) (fun c15 => ?_)
          · replace h := ifp c15 h
            refine V_aload C 1 dX11_move_71 rfl ?_
            refine V_iload_n C 4 dX11_move_73 rfl rfl ?_
            refine V_iload C 7 dX11_move_74 rfl ?_
            obtain ⟨a17, e16, h⟩ := bnd_s h
            refine W_callvi C cf_X6_holds (c_X6_holds hq3 e16) q_ML_X11_315 (ws_X6 hq3) rfl dX11_move_76 (by decide) rfl rfl (Nat.le_of_ble_eq_true rfl) ?_
            refine V_if_eq C dX11_move_79 rfl (fun c18 => ?_) (fun c18 => ?_)
            · replace h := ifp c18 h
              refine V_sub C [2] rfl ?_
              exact v_X11_move_94 C X h
            · replace h := ifn c18 h
              refine V_aload C 0 dX11_move_82 rfl ?_
              refine V_iload C 6 dX11_move_84 rfl ?_
              refine V_iload C 7 dX11_move_86 rfl ?_
              obtain ⟨a20, e19, h⟩ := bnd_s h
              refine W_callvi C cf_X6_holds (c_X6_holds hq7 e19) q_ML_X11_315 (ws_X6 hq7) rfl dX11_move_88 (by decide) rfl rfl (Nat.le_of_ble_eq_true rfl) ?_
              refine V_if_ne C dX11_move_91 rfl (fun c21 => ?_) (fun c21 => ?_)
              · replace h := ifn c21 h
                refine V_aload C 0 dX11_move_100 rfl ?_
                refine G_X6_numbers (q := a6) C hq7 q_FL_X11_324 dX11_move_102 ?_
                refine V_aload C 1 dX11_move_105 rfl ?_
                refine G_X6_numbers (q := a2) C hq3 q_FL_X11_324 dX11_move_107 ?_
                refine V_iload_n C 4 dX11_move_110 rfl rfl ?_
                refine V_iload C 6 dX11_move_111 rfl ?_
                refine V_iload C 7 dX11_move_113 rfl ?_
                obtain ⟨S23, e22, h⟩ := bnd_s h
                refine W_callvn C cf_X5_take (c_X5_take (so_6_1 hq7) (so_6_1 hq3) e22) q_ML_X11_327 (ws_X5 (so_6_1 hq7)) rfl dX11_move_115 (by decide) rfl rfl (Nat.le_of_ble_eq_true rfl) ?_
                refine V_iload C 7 dX11_move_118 rfl ?_
                exact V_iret C X dX11_move_120 ⟨ri_1 h, ri_2 h⟩
              · replace h := ifp c21 h
                refine V_sub C [2] rfl ?_
                exact v_X11_move_94 C X h
          · replace h := ifn c15 h
            refine V_aload_n C 2 dX11_move_65 rfl rfl ?_
            refine V_iconst C dX11_move_66 kc_i_5 ?_
            obtain ⟨a25, S26, e24, h⟩ := bnd2_s h
            refine W_callvi C cf_X11_fail (c_X11_fail e24) q_ML_X11_82 (ws_X11 sk_0) rfl dX11_move_67 (by decide) rfl rfl (Nat.le_of_ble_eq_true rfl) ?_
            exact V_iret C X dX11_move_70 ⟨ri_1 h, ri_2 h⟩
        · replace h := ifn c14 h
          refine V_sub C [2] rfl ?_
          exact v_X11_move_46 C X h
theorem c_X11_move {ε : eT} {S : St} {v1 : Int32} {v2 : Int32} {v3 : Int32} {v4 : Int32} {v5 : Int32} {res : (Int32 × St)} (h : f_X11_move S v1 v2 v3 v4 v5 = some res) : CI ε yX11_move cX11_move 8 (some .int) 3 [.ref (eA ε 0), .int v1, .int v2, .int v3, .int v4, .int v5] S (some (.int res.1)) res.2 := CI_of (by decide) (Nat.le_of_ble_eq_true rfl) rfl (fun κ C X => v_X11_move_e C X h)
def f_X11_named (N : Nat) (S : St) (v1 : Int32) : Option (Int32 × St) :=
 bnd (f_X11_isThing S v1) (fun a2 =>
 (if a2 = 0 then
 bnd2 (f_X11_fail S (1 : Int32)) (fun a8 S9 =>
 some (a8, S9))
 else
 bnd2 (f_X9_nameFor N S 8 v1) (fun a5 S6 =>
 some (a5, S6))))
set_option maxRecDepth 20000 in
theorem v_X11_named_e {ε : eT} {κ : kT} {N : Nat} (C : Act ε κ cX11_named 2 RX11 6) {S : St} {res : (Int32 × St)} (X : RI ε κ (some .int) (some (.int res.1)) res.2) {v1 : Int32} (h : f_X11_named N S v1 = some res) : V ε κ 2 0 [(0, .ref (eA ε 0)), (1, .int v1)] [] (wsOf ε S) 0 0 := by
  unfold f_X11_named at h
  refine V_aload_n C 0 dX11_named_0 rfl rfl ?_
  refine V_iload_n C 1 dX11_named_1 rfl rfl ?_
  obtain ⟨a2, e1, h⟩ := bnd_s h
  refine W_callvi C cf_X11_isThing (c_X11_isThing e1) q_ML_X11_147 (ws_X11 sk_0) rfl dX11_named_2 (by decide) rfl rfl (Nat.le_of_ble_eq_true rfl) ?_
  refine V_if_ne C dX11_named_5 rfl (fun c3 => ?_) (fun c3 => ?_)
  · replace h := ifn c3 h
    refine V_aload_n C 0 dX11_named_14 rfl rfl ?_
    refine G_X11_now (q := 0) C sk_0 q_FL_X11_21 dX11_named_15 ?_
    refine V_iload_n C 1 dX11_named_18 rfl rfl ?_
    obtain ⟨a5, S6, e4, h⟩ := bnd2_s h
    refine W_callvi C cf_X9_nameFor (c_X9_nameFor sk_8 e4) q_ML_X11_226 (ws_X9 sk_8) rfl dX11_named_19 (by decide) rfl rfl (Nat.le_of_ble_eq_true rfl) ?_
    exact V_iret C X dX11_named_22 ⟨ri_1 h, ri_2 h⟩
  · replace h := ifp c3 h
    refine V_aload_n C 0 dX11_named_8 rfl rfl ?_
    refine V_iconst C dX11_named_9 kc_i_1 ?_
    obtain ⟨a8, S9, e7, h⟩ := bnd2_s h
    refine W_callvi C cf_X11_fail (c_X11_fail e7) q_ML_X11_82 (ws_X11 sk_0) rfl dX11_named_10 (by decide) rfl rfl (Nat.le_of_ble_eq_true rfl) ?_
    exact V_iret C X dX11_named_13 ⟨ri_1 h, ri_2 h⟩
theorem c_X11_named {ε : eT} {N : Nat} {S : St} {v1 : Int32} {res : (Int32 × St)} (h : f_X11_named N S v1 = some res) : CI ε yX11_named cX11_named 2 (some .int) 6 [.ref (eA ε 0), .int v1] S (some (.int res.1)) res.2 := CI_of (by decide) (Nat.le_of_ble_eq_true rfl) rfl (fun κ C X => v_X11_named_e C X h)
def f_X11_pair_31 (S : St) : Option (Int32 × St) :=
 bnd2 (f_X11_fail S (1 : Int32)) (fun a2 S3 =>
 some (a2, S3))
set_option maxRecDepth 20000 in
theorem v_X11_pair_31 {ε : eT} {κ : kT} (C : Act ε κ cX11_pair 4 RX11 4) {S : St} {res : (Int32 × St)} (X : RI ε κ (some .int) (some (.int res.1)) res.2) (h : f_X11_pair_31 S = some res) : V ε κ 4 31 [(0, .ref (eA ε 0))] [] (wsOf ε S) 0 0 := by
  unfold f_X11_pair_31 at h
  refine V_aload_n C 0 dX11_pair_31 rfl rfl ?_
  refine V_iconst C dX11_pair_32 kc_i_1 ?_
  obtain ⟨a2, S3, e1, h⟩ := bnd2_s h
  refine W_callvi C cf_X11_fail (c_X11_fail e1) q_ML_X11_82 (ws_X11 sk_0) rfl dX11_pair_33 (by decide) rfl rfl (Nat.le_of_ble_eq_true rfl) ?_
  exact V_iret C X dX11_pair_36 ⟨ri_1 h, ri_2 h⟩
def f_X11_pair (S : St) (v1 : Int32) (v2 : Int32) (v3 : Int32) : Option (Int32 × St) :=
 bnd (f_X11_isThing S v1) (fun a2 =>
 (if a2 = 0 then
 f_X11_pair_31 S
 else
 bnd (f_X11_isThing S v2) (fun a5 =>
 (if a5 = 0 then
 f_X11_pair_31 S
 else
 (if v1 = v2 then
 f_X11_pair_31 S
 else
 bnd (f_X11_within S v3 (9999 : Int32)) (fun a9 =>
 (if a9 = 0 then
 f_X11_pair_31 S
 else
 bnd (f_X5_size S 33) (fun a12 =>
 (if a12 < (6 : Int32) then
 bnd2 (f_X9_addPair S 8 v1 v2 v3) (fun a15 S16 =>
 some (a15, S16))
 else
 bnd2 (f_X11_fail S (4 : Int32)) (fun a18 S19 =>
 some (a18, S19)))))))))))
set_option maxRecDepth 20000 in
theorem v_X11_pair_e {ε : eT} {κ : kT} (C : Act ε κ cX11_pair 4 RX11 4) {S : St} {res : (Int32 × St)} (X : RI ε κ (some .int) (some (.int res.1)) res.2) {v1 : Int32} {v2 : Int32} {v3 : Int32} (h : f_X11_pair S v1 v2 v3 = some res) : V ε κ 4 0 [(0, .ref (eA ε 0)), (1, .int v1), (2, .int v2), (3, .int v3)] [] (wsOf ε S) 0 0 := by
  unfold f_X11_pair at h
  refine V_aload_n C 0 dX11_pair_0 rfl rfl ?_
  refine V_iload_n C 1 dX11_pair_1 rfl rfl ?_
  obtain ⟨a2, e1, h⟩ := bnd_s h
  refine W_callvi C cf_X11_isThing (c_X11_isThing e1) q_ML_X11_147 (ws_X11 sk_0) rfl dX11_pair_2 (by decide) rfl rfl (Nat.le_of_ble_eq_true rfl) ?_
  refine V_if_eq C dX11_pair_5 rfl (fun c3 => ?_) (fun c3 => ?_)
  · replace h := ifp c3 h
    refine V_sub C [0] rfl ?_
    exact v_X11_pair_31 C X h
  · replace h := ifn c3 h
    refine V_aload_n C 0 dX11_pair_8 rfl rfl ?_
    refine V_iload_n C 2 dX11_pair_9 rfl rfl ?_
    obtain ⟨a5, e4, h⟩ := bnd_s h
    refine W_callvi C cf_X11_isThing (c_X11_isThing e4) q_ML_X11_147 (ws_X11 sk_0) rfl dX11_pair_10 (by decide) rfl rfl (Nat.le_of_ble_eq_true rfl) ?_
    refine V_if_eq C dX11_pair_13 rfl (fun c6 => ?_) (fun c6 => ?_)
    · replace h := ifp c6 h
      refine V_sub C [0] rfl ?_
      exact v_X11_pair_31 C X h
    · replace h := ifn c6 h
      refine V_iload_n C 1 dX11_pair_16 rfl rfl ?_
      refine V_iload_n C 2 dX11_pair_17 rfl rfl ?_
      refine V_icmp_eq C dX11_pair_18 rfl (fun c7 => ?_) (fun c7 => ?_)
      · replace h := ifp c7 h
        refine V_sub C [0] rfl ?_
        exact v_X11_pair_31 C X h
      · replace h := ifn c7 h
        refine V_iload_n C 3 dX11_pair_21 rfl rfl ?_
        refine V_sipush C dX11_pair_22 kc_s_9999 ?_
        obtain ⟨a9, e8, h⟩ := bnd_s h
        refine W_callsi C cf_X11_within (c_X11_within e8) q_ML_X11_75 dX11_pair_25 (by decide) rfl rfl (Nat.le_of_ble_eq_true rfl) ?_
        refine V_if_ne C dX11_pair_28 rfl (fun c10 => ?_) (fun c10 => ?_)
        · replace h := ifn c10 h
          refine V_aload_n C 0 dX11_pair_37 rfl rfl ?_
          refine G_X11_now (q := 0) C sk_0 q_FL_X11_21 dX11_pair_38 ?_
          refine G_X9_bonuses (q := 8) C sk_8 q_FL_X11_173 dX11_pair_41 ?_
          obtain ⟨a12, e11, h⟩ := bnd_s h
          refine W_callvi C cf_X5_size (c_X5_size sk_33 e11) q_ML_X11_176 (ws_X5 sk_33) rfl dX11_pair_44 (by decide) rfl rfl (Nat.le_of_ble_eq_true rfl) ?_
          refine V_bipush C dX11_pair_47 kc_b_6 ?_
          refine V_icmp_lt C dX11_pair_49 rfl (fun c13 => ?_) (fun c13 => ?_)
          · replace h := ifp c13 h
            refine V_aload_n C 0 dX11_pair_58 rfl rfl ?_
            refine G_X11_now (q := 0) C sk_0 q_FL_X11_21 dX11_pair_59 ?_
            refine V_iload_n C 1 dX11_pair_62 rfl rfl ?_
            refine V_iload_n C 2 dX11_pair_63 rfl rfl ?_
            refine V_iload_n C 3 dX11_pair_64 rfl rfl ?_
            obtain ⟨a15, S16, e14, h⟩ := bnd2_s h
            refine W_callvi C cf_X9_addPair (c_X9_addPair sk_8 e14) q_ML_X11_177 (ws_X9 sk_8) rfl dX11_pair_65 (by decide) rfl rfl (Nat.le_of_ble_eq_true rfl) ?_
            exact V_iret C X dX11_pair_68 ⟨ri_1 h, ri_2 h⟩
          · replace h := ifn c13 h
            refine V_aload_n C 0 dX11_pair_52 rfl rfl ?_
            refine V_iconst C dX11_pair_53 kc_i_4 ?_
            obtain ⟨a18, S19, e17, h⟩ := bnd2_s h
            refine W_callvi C cf_X11_fail (c_X11_fail e17) q_ML_X11_82 (ws_X11 sk_0) rfl dX11_pair_54 (by decide) rfl rfl (Nat.le_of_ble_eq_true rfl) ?_
            exact V_iret C X dX11_pair_57 ⟨ri_1 h, ri_2 h⟩
        · replace h := ifp c10 h
          refine V_sub C [0] rfl ?_
          exact v_X11_pair_31 C X h
theorem c_X11_pair {ε : eT} {S : St} {v1 : Int32} {v2 : Int32} {v3 : Int32} {res : (Int32 × St)} (h : f_X11_pair S v1 v2 v3 = some res) : CI ε yX11_pair cX11_pair 4 (some .int) 4 [.ref (eA ε 0), .int v1, .int v2, .int v3] S (some (.int res.1)) res.2 := CI_of (by decide) (Nat.le_of_ble_eq_true rfl) rfl (fun κ C X => v_X11_pair_e C X h)
def f_X11_pairIs_27 (S : St) : Option (Int32 × St) :=
 bnd2 (f_X11_fail S (1 : Int32)) (fun a2 S3 =>
 some (a2, S3))
set_option maxRecDepth 20000 in
theorem v_X11_pairIs_27 {ε : eT} {κ : kT} (C : Act ε κ cX11_pairIs 3 RX11 3) {S : St} {res : (Int32 × St)} (X : RI ε κ (some .int) (some (.int res.1)) res.2) (h : f_X11_pairIs_27 S = some res) : V ε κ 3 27 [(0, .ref (eA ε 0))] [] (wsOf ε S) 0 0 := by
  unfold f_X11_pairIs_27 at h
  refine V_aload_n C 0 dX11_pairIs_27 rfl rfl ?_
  refine V_iconst C dX11_pairIs_28 kc_i_1 ?_
  obtain ⟨a2, S3, e1, h⟩ := bnd2_s h
  refine W_callvi C cf_X11_fail (c_X11_fail e1) q_ML_X11_82 (ws_X11 sk_0) rfl dX11_pairIs_29 (by decide) rfl rfl (Nat.le_of_ble_eq_true rfl) ?_
  exact V_iret C X dX11_pairIs_32 ⟨ri_1 h, ri_2 h⟩
def f_X11_pairIs (S : St) (v1 : Int32) (v2 : Int32) : Option (Int32 × St) :=
 bnd (f_X5_size S 33) (fun a2 =>
 bnd (f_X11_within S v1 (a2 - (1 : Int32))) (fun a4 =>
 (if a4 = 0 then
 f_X11_pairIs_27 S
 else
 bnd (f_X11_within S v2 (3 : Int32)) (fun a7 =>
 (if a7 = 0 then
 f_X11_pairIs_27 S
 else
 (if v2 = 0 then
 bnd (f_X5_at S 29 v1) (fun a13 =>
 some (a13, S))
 else
 (if v2 = 1 then
 bnd (f_X5_at S 31 v1) (fun a15 =>
 some (a15, S))
 else
 (if v2 = 2 then
 bnd (f_X5_at S 33 v1) (fun a17 =>
 some (a17, S))
 else
 bnd (f_X9_bonusOwner S 8 v1) (fun a19 =>
 some (a19, S))))))))))
set_option maxRecDepth 20000 in
theorem v_X11_pairIs_e {ε : eT} {κ : kT} (C : Act ε κ cX11_pairIs 3 RX11 3) {S : St} {res : (Int32 × St)} (X : RI ε κ (some .int) (some (.int res.1)) res.2) {v1 : Int32} {v2 : Int32} (h : f_X11_pairIs S v1 v2 = some res) : V ε κ 3 0 [(0, .ref (eA ε 0)), (1, .int v1), (2, .int v2)] [] (wsOf ε S) 0 0 := by
  unfold f_X11_pairIs at h
  refine V_iload_n C 1 dX11_pairIs_0 rfl rfl ?_
  refine V_aload_n C 0 dX11_pairIs_1 rfl rfl ?_
  refine G_X11_now (q := 0) C sk_0 q_FL_X11_21 dX11_pairIs_2 ?_
  refine G_X9_bonuses (q := 8) C sk_8 q_FL_X11_173 dX11_pairIs_5 ?_
  obtain ⟨a2, e1, h⟩ := bnd_s h
  refine W_callvi C cf_X5_size (c_X5_size sk_33 e1) q_ML_X11_176 (ws_X5 sk_33) rfl dX11_pairIs_8 (by decide) rfl rfl (Nat.le_of_ble_eq_true rfl) ?_
  refine V_iconst C dX11_pairIs_11 kc_i_1 ?_
  refine V_isub C dX11_pairIs_12 ?_
  obtain ⟨a4, e3, h⟩ := bnd_s h
  refine W_callsi C cf_X11_within (c_X11_within e3) q_ML_X11_75 dX11_pairIs_13 (by decide) rfl rfl (Nat.le_of_ble_eq_true rfl) ?_
  refine V_if_eq C dX11_pairIs_16 rfl (fun c5 => ?_) (fun c5 => ?_)
  · replace h := ifp c5 h
    refine V_sub C [0] rfl ?_
    exact v_X11_pairIs_27 C X h
  · replace h := ifn c5 h
    refine V_iload_n C 2 dX11_pairIs_19 rfl rfl ?_
    refine V_iconst C dX11_pairIs_20 kc_i_3 ?_
    obtain ⟨a7, e6, h⟩ := bnd_s h
    refine W_callsi C cf_X11_within (c_X11_within e6) q_ML_X11_75 dX11_pairIs_21 (by decide) rfl rfl (Nat.le_of_ble_eq_true rfl) ?_
    refine V_if_ne C dX11_pairIs_24 rfl (fun c8 => ?_) (fun c8 => ?_)
    · replace h := ifn c8 h
      refine V_iload_n C 2 dX11_pairIs_33 rfl rfl ?_
      by_cases c9 : v2 = 0
      · replace h := ifp c9 h
        refine V_table C rfl dX11_pairIs_34 (off := 26) (by rw [c9]; decide +kernel) (tgt := 60) rfl ?_
        refine V_aload_n C 0 dX11_pairIs_60 rfl rfl ?_
        refine G_X11_now (q := 0) C sk_0 q_FL_X11_21 dX11_pairIs_61 ?_
        refine G_X9_ones (q := 8) C sk_8 q_FL_X11_180 dX11_pairIs_64 ?_
        refine V_iload_n C 1 dX11_pairIs_67 rfl rfl ?_
        obtain ⟨a13, e12, h⟩ := bnd_s h
        refine W_callvi C cf_X5_at (c_X5_at sk_29 e12) q_ML_X11_106 (ws_X5 sk_29) rfl dX11_pairIs_68 (by decide) rfl rfl (Nat.le_of_ble_eq_true rfl) ?_
        exact V_iret C X dX11_pairIs_71 ⟨ri_1 h, ri_2 h⟩
      · replace h := ifn c9 h
        by_cases c10 : v2 = 1
        · replace h := ifp c10 h
          refine V_table C rfl dX11_pairIs_34 (off := 38) (by rw [c10]; decide +kernel) (tgt := 72) rfl ?_
          refine V_aload_n C 0 dX11_pairIs_72 rfl rfl ?_
          refine G_X11_now (q := 0) C sk_0 q_FL_X11_21 dX11_pairIs_73 ?_
          refine G_X9_others (q := 8) C sk_8 q_FL_X11_183 dX11_pairIs_76 ?_
          refine V_iload_n C 1 dX11_pairIs_79 rfl rfl ?_
          obtain ⟨a15, e14, h⟩ := bnd_s h
          refine W_callvi C cf_X5_at (c_X5_at sk_31 e14) q_ML_X11_106 (ws_X5 sk_31) rfl dX11_pairIs_80 (by decide) rfl rfl (Nat.le_of_ble_eq_true rfl) ?_
          exact V_iret C X dX11_pairIs_83 ⟨ri_1 h, ri_2 h⟩
        · replace h := ifn c10 h
          by_cases c11 : v2 = 2
          · replace h := ifp c11 h
            refine V_table C rfl dX11_pairIs_34 (off := 50) (by rw [c11]; decide +kernel) (tgt := 84) rfl ?_
            refine V_aload_n C 0 dX11_pairIs_84 rfl rfl ?_
            refine G_X11_now (q := 0) C sk_0 q_FL_X11_21 dX11_pairIs_85 ?_
            refine G_X9_bonuses (q := 8) C sk_8 q_FL_X11_173 dX11_pairIs_88 ?_
            refine V_iload_n C 1 dX11_pairIs_91 rfl rfl ?_
            obtain ⟨a17, e16, h⟩ := bnd_s h
            refine W_callvi C cf_X5_at (c_X5_at sk_33 e16) q_ML_X11_106 (ws_X5 sk_33) rfl dX11_pairIs_92 (by decide) rfl rfl (Nat.le_of_ble_eq_true rfl) ?_
            exact V_iret C X dX11_pairIs_95 ⟨ri_1 h, ri_2 h⟩
          · replace h := ifn c11 h
            refine V_table C rfl dX11_pairIs_34 (swt_d [(0 : Int32), (1 : Int32), (2 : Int32)] (List.forall_mem_cons.mpr ⟨c9, (List.forall_mem_cons.mpr ⟨c10, (List.forall_mem_cons.mpr ⟨c11, (fun _ h => absurd h List.not_mem_nil)⟩)⟩)⟩) rfl (by decide +kernel)) (tgt := 96) rfl ?_
            refine V_aload_n C 0 dX11_pairIs_96 rfl rfl ?_
            refine G_X11_now (q := 0) C sk_0 q_FL_X11_21 dX11_pairIs_97 ?_
            refine V_iload_n C 1 dX11_pairIs_100 rfl rfl ?_
            obtain ⟨a19, e18, h⟩ := bnd_s h
            refine W_callvi C cf_X9_bonusOwner (c_X9_bonusOwner sk_8 e18) q_ML_X11_186 (ws_X9 sk_8) rfl dX11_pairIs_101 (by decide) rfl rfl (Nat.le_of_ble_eq_true rfl) ?_
            exact V_iret C X dX11_pairIs_104 ⟨ri_1 h, ri_2 h⟩
    · replace h := ifp c8 h
      refine V_sub C [0] rfl ?_
      exact v_X11_pairIs_27 C X h
theorem c_X11_pairIs {ε : eT} {S : St} {v1 : Int32} {v2 : Int32} {res : (Int32 × St)} (h : f_X11_pairIs S v1 v2 = some res) : CI ε yX11_pairIs cX11_pairIs 3 (some .int) 3 [.ref (eA ε 0), .int v1, .int v2] S (some (.int res.1)) res.2 := CI_of (by decide) (Nat.le_of_ble_eq_true rfl) rfl (fun κ C X => v_X11_pairIs_e C X h)
def f_X11_part_82 (N : Nat) (K22 : St → Int32 → Int32 → Int32 → Int32 → Option (Int32 × St)) (S : St) (v1 : Int32) (v2 : Int32) (v3 : Int32) (v4 : Int32) : Option (Int32 × St) :=
 K22 S v1 v2 v3 (v4 + 1)
set_option maxRecDepth 20000 in
theorem v_X11_part_82 {ε : eT} {κ : kT} {N : Nat} (C : Act ε κ cX11_part 6 RX11 8) {S : St} {res : (Int32 × St)} (X : RI ε κ (some .int) (some (.int res.1)) res.2) {K22 : St → Int32 → Int32 → Int32 → Int32 → Option (Int32 × St)} (hK22 : ∀ (S : St) (v1 : Int32) (v2 : Int32) (v3 : Int32) (v4 : Int32), K22 S v1 v2 v3 v4 = some res → V ε κ 6 22 [(0, .ref (eA ε 0)), (1, .int v1), (2, .int v2), (3, .int v3), (4, .int v4)] [] (wsOf ε S) 0 0) {v1 : Int32} {v2 : Int32} {v3 : Int32} {v4 : Int32} (h : f_X11_part_82 N K22 S v1 v2 v3 v4 = some res) : V ε κ 6 82 [(0, .ref (eA ε 0)), (1, .int v1), (2, .int v2), (3, .int v3), (4, .int v4)] [] (wsOf ε S) 0 0 := by
  unfold f_X11_part_82 at h
  refine V_iinc (v := (v4 + 1)) (lv' := [(4, .int (v4 + 1)), (0, .ref (eA ε 0)), (1, .int v1), (2, .int v2), (3, .int v3)]) C 4 dX11_part_82 rfl (congrArg _ kc_i_1) (by decide) rfl ?_
  refine V_goto C dX11_part_85 rfl ?_
  refine V_sub C [1, 2, 3, 4, 0] rfl ?_
  exact hK22 _ _ _ _ _ h
def f_X11_part_22 (N : Nat) : Nat → St → Int32 → Int32 → Int32 → Int32 → Option (Int32 × St)
  | 0, _, _, _, _, _ => none
  | n + 1, S, v1, v2, v3, v4 =>
    (if (30 : Int32) < v4 then
     some (v2, S)
     else
     bnd (f_X9_copy S 55 8) (fun S3 =>
     bnd (f_X5_set S3 82 (0 : Int32) v4) (fun S5 =>
     bnd (f_X0_goBy N S5 55 v1) (fun S7 =>
     bnd (f_X9_held N S7 55) (fun a9 =>
     (if a9 ≤ v3 then
     f_X11_part_82 N (f_X11_part_22 N n) S7 v1 v2 v3 v4
     else
     f_X11_part_82 N (f_X11_part_22 N n) S7 v1 v4 a9 v4))))))
set_option maxRecDepth 20000 in
theorem v_X11_part_22 {ε : eT} {κ : kT} {N : Nat} (C : Act ε κ cX11_part 6 RX11 8) {res : (Int32 × St)} (X : RI ε κ (some .int) (some (.int res.1)) res.2) : ∀ (n : Nat) (S : St) (v1 : Int32) (v2 : Int32) (v3 : Int32) (v4 : Int32) (h : f_X11_part_22 N n S v1 v2 v3 v4 = some res), V ε κ 6 22 [(0, .ref (eA ε 0)), (1, .int v1), (2, .int v2), (3, .int v3), (4, .int v4)] [] (wsOf ε S) 0 0 := by
  intro n
  induction n with
  | zero => intro S v1 v2 v3 v4 h; cases h
  | succ n ih =>
    intro S v1 v2 v3 v4 h
    rw [f_X11_part_22] at h
    refine V_iload C 4 dX11_part_22 rfl ?_
    refine V_bipush C dX11_part_24 kc_b_30 ?_
    refine V_icmp_gt C dX11_part_26 rfl (fun c1 => ?_) (fun c1 => ?_)
    · replace h := ifp c1 h
      refine V_iload_n C 2 dX11_part_88 rfl rfl ?_
      exact V_iret C X dX11_part_89 ⟨ri_1 h, ri_2 h⟩
    · replace h := ifn c1 h
      refine V_aload_n C 0 dX11_part_29 rfl rfl ?_
      refine G_X11_ahead (q := 0) C sk_0 q_FL_X11_25 dX11_part_30 ?_
      refine V_aload_n C 0 dX11_part_33 rfl rfl ?_
      refine G_X11_now (q := 0) C sk_0 q_FL_X11_21 dX11_part_34 ?_
      obtain ⟨S3, e2, h⟩ := bnd_s h
      refine W_callvn C cf_X9_copy (c_X9_copy sk_55 sk_8 e2) q_ML_X11_280 (ws_X9 sk_55) rfl dX11_part_37 (by decide) rfl rfl (Nat.le_of_ble_eq_true rfl) ?_
      refine V_aload_n C 0 dX11_part_40 rfl rfl ?_
      refine G_X11_ahead (q := 0) C sk_0 q_FL_X11_25 dX11_part_41 ?_
      refine G_X9_rules (q := 55) C sk_55 q_FL_X11_170 dX11_part_44 ?_
      refine V_iconst C dX11_part_47 kc_i_0 ?_
      refine V_iload C 4 dX11_part_48 rfl ?_
      obtain ⟨S5, e4, h⟩ := bnd_s h
      refine W_callvn C cf_X5_set (c_X5_set sk_82 e4) q_ML_X11_284 (ws_X5 sk_82) rfl dX11_part_50 (by decide) rfl rfl (Nat.le_of_ble_eq_true rfl) ?_
      refine V_aload_n C 0 dX11_part_53 rfl rfl ?_
      refine G_X11_ahead (q := 0) C sk_0 q_FL_X11_25 dX11_part_54 ?_
      refine V_iload_n C 1 dX11_part_57 rfl rfl ?_
      obtain ⟨S7, e6, h⟩ := bnd_s h
      refine W_callsn C cf_X0_goBy (c_X0_goBy sk_55 e6) q_ML_X11_235 dX11_part_58 (by decide) rfl rfl (Nat.le_of_ble_eq_true rfl) ?_
      refine V_aload_n C 0 dX11_part_61 rfl rfl ?_
      refine G_X11_ahead (q := 0) C sk_0 q_FL_X11_25 dX11_part_62 ?_
      obtain ⟨a9, e8, h⟩ := bnd_s h
      refine W_callvi C cf_X9_held (c_X9_held sk_55 e8) q_ML_X11_288 (ws_X9 sk_55) rfl dX11_part_65 (by decide) rfl rfl (Nat.le_of_ble_eq_true rfl) ?_
      refine V_istore (lv' := [(5, .int a9), (0, .ref (eA ε 0)), (1, .int v1), (2, .int v2), (3, .int v3), (4, .int v4)]) C dX11_part_68 (by decide) rfl ?_
      refine V_iload C 0 dX11_part_70 rfl ?_
      refine V_iload_n C 4 dX11_part_72 rfl rfl ?_
      refine V_icmp_le C dX11_part_73 rfl (fun c10 => ?_) (fun c10 => ?_)
      · replace h := ifp c10 h
        refine V_sub C [1, 2, 3, 4, 5] rfl ?_
        exact v_X11_part_82 C X ih h
      · replace h := ifn c10 h
        refine V_iload C 0 dX11_part_76 rfl ?_
        refine V_istore_n (lv' := [(3, .int a9), (5, .int a9), (0, .ref (eA ε 0)), (1, .int v1), (2, .int v2), (4, .int v4)]) C dX11_part_78 rfl (by decide) rfl ?_
        refine V_iload C 5 dX11_part_79 rfl ?_
        refine V_istore_n (lv' := [(2, .int v4), (3, .int a9), (5, .int a9), (0, .ref (eA ε 0)), (1, .int v1), (4, .int v4)]) C dX11_part_81 rfl (by decide) rfl ?_
        refine V_sub C [3, 4, 0, 1, 5] rfl ?_
        exact v_X11_part_82 C X ih h
def f_X11_part (N : Nat) (S : St) (v1 : Int32) : Option (Int32 × St) :=
 bnd (f_X11_within S v1 (40 : Int32)) (fun a2 =>
 (if a2 = 0 then
 bnd2 (f_X11_fail S (1 : Int32)) (fun a5 S6 =>
 some (a5, S6))
 else
 f_X11_part_22 N N S v1 (0 : Int32) (-1 : Int32) (0 : Int32)))
set_option maxRecDepth 20000 in
theorem v_X11_part_e {ε : eT} {κ : kT} {N : Nat} (C : Act ε κ cX11_part 6 RX11 8) {S : St} {res : (Int32 × St)} (X : RI ε κ (some .int) (some (.int res.1)) res.2) {v1 : Int32} (h : f_X11_part N S v1 = some res) : V ε κ 6 0 [(0, .ref (eA ε 0)), (1, .int v1)] [] (wsOf ε S) 0 0 := by
  unfold f_X11_part at h
  refine V_iload_n C 1 dX11_part_0 rfl rfl ?_
  refine V_bipush C dX11_part_1 kc_b_40 ?_
  obtain ⟨a2, e1, h⟩ := bnd_s h
  refine W_callsi C cf_X11_within (c_X11_within e1) q_ML_X11_75 dX11_part_3 (by decide) rfl rfl (Nat.le_of_ble_eq_true rfl) ?_
  refine V_if_ne C dX11_part_6 rfl (fun c3 => ?_) (fun c3 => ?_)
  · replace h := ifn c3 h
    refine V_iconst C dX11_part_15 kc_i_0 ?_
    refine V_istore_n (lv' := [(2, .int (0 : Int32)), (0, .ref (eA ε 0)), (1, .int v1)]) C dX11_part_16 rfl (by decide) rfl ?_
    refine V_iconst C dX11_part_17 kc_i_m1 ?_
    refine V_istore_n (lv' := [(3, .int (-1 : Int32)), (2, .int (0 : Int32)), (0, .ref (eA ε 0)), (1, .int v1)]) C dX11_part_18 rfl (by decide) rfl ?_
    refine V_iconst C dX11_part_19 kc_i_0 ?_
    refine V_istore (lv' := [(4, .int (0 : Int32)), (3, .int (-1 : Int32)), (2, .int (0 : Int32)), (0, .ref (eA ε 0)), (1, .int v1)]) C dX11_part_20 (by decide) rfl ?_
    refine V_sub C [3, 4, 2, 1, 0] rfl ?_
    exact v_X11_part_22 C X N _ _ _ _ _ h
  · replace h := ifp c3 h
    refine V_aload_n C 0 dX11_part_9 rfl rfl ?_
    refine V_iconst C dX11_part_10 kc_i_1 ?_
    obtain ⟨a5, S6, e4, h⟩ := bnd2_s h
    refine W_callvi C cf_X11_fail (c_X11_fail e4) q_ML_X11_82 (ws_X11 sk_0) rfl dX11_part_11 (by decide) rfl rfl (Nat.le_of_ble_eq_true rfl) ?_
    exact V_iret C X dX11_part_14 ⟨ri_1 h, ri_2 h⟩
theorem c_X11_part {ε : eT} {N : Nat} {S : St} {v1 : Int32} {res : (Int32 × St)} (h : f_X11_part N S v1 = some res) : CI ε yX11_part cX11_part 6 (some .int) 8 [.ref (eA ε 0), .int v1] S (some (.int res.1)) res.2 := CI_of (by decide) (Nat.le_of_ble_eq_true rfl) rfl (fun κ C X => v_X11_part_e C X h)
def f_X11_person_23 (S : St) : Option (Int32 × St) :=
 bnd2 (f_X11_fail S (1 : Int32)) (fun a2 S3 =>
 some (a2, S3))
set_option maxRecDepth 20000 in
theorem v_X11_person_23 {ε : eT} {κ : kT} (C : Act ε κ cX11_person 4 RX11 3) {S : St} {res : (Int32 × St)} (X : RI ε κ (some .int) (some (.int res.1)) res.2) (h : f_X11_person_23 S = some res) : V ε κ 4 23 [(0, .ref (eA ε 0))] [] (wsOf ε S) 0 0 := by
  unfold f_X11_person_23 at h
  refine V_aload_n C 0 dX11_person_23 rfl rfl ?_
  refine V_iconst C dX11_person_24 kc_i_1 ?_
  obtain ⟨a2, S3, e1, h⟩ := bnd2_s h
  refine W_callvi C cf_X11_fail (c_X11_fail e1) q_ML_X11_82 (ws_X11 sk_0) rfl dX11_person_25 (by decide) rfl rfl (Nat.le_of_ble_eq_true rfl) ?_
  exact V_iret C X dX11_person_28 ⟨ri_1 h, ri_2 h⟩
def f_X11_person (S : St) (v1 : Int32) (v2 : Int32) (v3 : Int32) : Option (Int32 × St) :=
 bnd (f_X1_isOne S v1) (fun a2 =>
 (if a2 = 0 then
 f_X11_person_23 S
 else
 bnd (f_X11_within S v2 (999999 : Int32)) (fun a5 =>
 (if a5 = 0 then
 f_X11_person_23 S
 else
 bnd (f_X11_isChance S v3) (fun a8 =>
 (if a8 = 0 then
 f_X11_person_23 S
 else
 bnd (f_X3_size S 9) (fun a11 =>
 (if a11 < (6 : Int32) then
 bnd2 (f_X3_join S 9 v1 v2 v3) (fun a14 S15 =>
 some (a14, S15))
 else
 bnd2 (f_X11_fail S (4 : Int32)) (fun a17 S18 =>
 some (a17, S18))))))))))
set_option maxRecDepth 20000 in
theorem v_X11_person_e {ε : eT} {κ : kT} (C : Act ε κ cX11_person 4 RX11 3) {S : St} {res : (Int32 × St)} (X : RI ε κ (some .int) (some (.int res.1)) res.2) {v1 : Int32} {v2 : Int32} {v3 : Int32} (h : f_X11_person S v1 v2 v3 = some res) : V ε κ 4 0 [(0, .ref (eA ε 0)), (1, .int v1), (2, .int v2), (3, .int v3)] [] (wsOf ε S) 0 0 := by
  unfold f_X11_person at h
  refine V_iload_n C 1 dX11_person_0 rfl rfl ?_
  obtain ⟨a2, e1, h⟩ := bnd_s h
  refine W_callsi C cf_X1_isOne (c_X1_isOne e1) q_ML_X11_68 dX11_person_1 (by decide) rfl rfl (Nat.le_of_ble_eq_true rfl) ?_
  refine V_if_eq C dX11_person_4 rfl (fun c3 => ?_) (fun c3 => ?_)
  · replace h := ifp c3 h
    refine V_sub C [0] rfl ?_
    exact v_X11_person_23 C X h
  · replace h := ifn c3 h
    refine V_iload_n C 2 dX11_person_7 rfl rfl ?_
    refine V_ldc C q_K_X11_74 dX11_person_8 ?_
    obtain ⟨a5, e4, h⟩ := bnd_s h
    refine W_callsi C cf_X11_within (c_X11_within e4) q_ML_X11_75 dX11_person_10 (by decide) rfl rfl (Nat.le_of_ble_eq_true rfl) ?_
    refine V_if_eq C dX11_person_13 rfl (fun c6 => ?_) (fun c6 => ?_)
    · replace h := ifp c6 h
      refine V_sub C [0] rfl ?_
      exact v_X11_person_23 C X h
    · replace h := ifn c6 h
      refine V_iload_n C 3 dX11_person_16 rfl rfl ?_
      obtain ⟨a8, e7, h⟩ := bnd_s h
      refine W_callsi C cf_X11_isChance (c_X11_isChance e7) q_ML_X11_79 dX11_person_17 (by decide) rfl rfl (Nat.le_of_ble_eq_true rfl) ?_
      refine V_if_ne C dX11_person_20 rfl (fun c9 => ?_) (fun c9 => ?_)
      · replace h := ifn c9 h
        refine V_aload_n C 0 dX11_person_29 rfl rfl ?_
        refine G_X11_now (q := 0) C sk_0 q_FL_X11_21 dX11_person_30 ?_
        refine G_X9_people (q := 8) C sk_8 q_FL_X11_86 dX11_person_33 ?_
        obtain ⟨a11, e10, h⟩ := bnd_s h
        refine W_callvi C cf_X3_size (c_X3_size sk_9 e10) q_ML_X11_90 (ws_X3 sk_9) rfl dX11_person_36 (by decide) rfl rfl (Nat.le_of_ble_eq_true rfl) ?_
        refine V_bipush C dX11_person_39 kc_b_6 ?_
        refine V_icmp_lt C dX11_person_41 rfl (fun c12 => ?_) (fun c12 => ?_)
        · replace h := ifp c12 h
          refine V_aload_n C 0 dX11_person_50 rfl rfl ?_
          refine G_X11_now (q := 0) C sk_0 q_FL_X11_21 dX11_person_51 ?_
          refine G_X9_people (q := 8) C sk_8 q_FL_X11_86 dX11_person_54 ?_
          refine V_iload_n C 1 dX11_person_57 rfl rfl ?_
          refine V_iload_n C 2 dX11_person_58 rfl rfl ?_
          refine V_iload_n C 3 dX11_person_59 rfl rfl ?_
          obtain ⟨a14, S15, e13, h⟩ := bnd2_s h
          refine W_callvi C cf_X3_join (c_X3_join sk_9 e13) q_ML_X11_96 (ws_X3 sk_9) rfl dX11_person_60 (by decide) rfl rfl (Nat.le_of_ble_eq_true rfl) ?_
          exact V_iret C X dX11_person_63 ⟨ri_1 h, ri_2 h⟩
        · replace h := ifn c12 h
          refine V_aload_n C 0 dX11_person_44 rfl rfl ?_
          refine V_iconst C dX11_person_45 kc_i_4 ?_
          obtain ⟨a17, S18, e16, h⟩ := bnd2_s h
          refine W_callvi C cf_X11_fail (c_X11_fail e16) q_ML_X11_82 (ws_X11 sk_0) rfl dX11_person_46 (by decide) rfl rfl (Nat.le_of_ble_eq_true rfl) ?_
          exact V_iret C X dX11_person_49 ⟨ri_1 h, ri_2 h⟩
      · replace h := ifp c9 h
        refine V_sub C [0] rfl ?_
        exact v_X11_person_23 C X h
theorem c_X11_person {ε : eT} {S : St} {v1 : Int32} {v2 : Int32} {v3 : Int32} {res : (Int32 × St)} (h : f_X11_person S v1 v2 v3 = some res) : CI ε yX11_person cX11_person 4 (some .int) 3 [.ref (eA ε 0), .int v1, .int v2, .int v3] S (some (.int res.1)) res.2 := CI_of (by decide) (Nat.le_of_ble_eq_true rfl) rfl (fun κ C X => v_X11_person_e C X h)
def f_X11_personIs_17 (N : Nat) (S : St) : Option (Int32 × St) :=
 bnd2 (f_X11_fail S (1 : Int32)) (fun a2 S3 =>
 some (a2, S3))
set_option maxRecDepth 20000 in
theorem v_X11_personIs_17 {ε : eT} {κ : kT} {N : Nat} (C : Act ε κ cX11_personIs 3 RX11 4) {S : St} {res : (Int32 × St)} (X : RI ε κ (some .int) (some (.int res.1)) res.2) (h : f_X11_personIs_17 N S = some res) : V ε κ 3 17 [(0, .ref (eA ε 0))] [] (wsOf ε S) 0 0 := by
  unfold f_X11_personIs_17 at h
  refine V_aload_n C 0 dX11_personIs_17 rfl rfl ?_
  refine V_iconst C dX11_personIs_18 kc_i_1 ?_
  obtain ⟨a2, S3, e1, h⟩ := bnd2_s h
  refine W_callvi C cf_X11_fail (c_X11_fail e1) q_ML_X11_82 (ws_X11 sk_0) rfl dX11_personIs_19 (by decide) rfl rfl (Nat.le_of_ble_eq_true rfl) ?_
  exact V_iret C X dX11_personIs_22 ⟨ri_1 h, ri_2 h⟩
def f_X11_personIs (N : Nat) (S : St) (v1 : Int32) (v2 : Int32) : Option (Int32 × St) :=
 bnd (f_X11_isPerson S v1) (fun a2 =>
 (if a2 = 0 then
 f_X11_personIs_17 N S
 else
 bnd (f_X11_within S v2 (6 : Int32)) (fun a5 =>
 (if a5 = 0 then
 f_X11_personIs_17 N S
 else
 (if v2 = 0 then
 bnd (f_X5_at S 10 v1) (fun a14 =>
 some (a14, S))
 else
 (if v2 = 1 then
 bnd (f_X5_at S 12 v1) (fun a16 =>
 some (a16, S))
 else
 (if v2 = 2 then
 bnd (f_X5_at S 14 v1) (fun a18 =>
 bnd (f_X5_at S 16 v1) (fun a20 =>
 some (((a18 * (10 : Int32)) + a20), S)))
 else
 (if v2 = 3 then
 bnd (f_X8_ownedBy N S 18 v1) (fun a22 =>
 some (a22, S))
 else
 (if v2 = 4 then
 bnd (f_X8_keptBy N S 18 v1) (fun a24 =>
 some (a24, S))
 else
 (if v2 = 5 then
 bnd (f_X9_lackedBy N S 8 v1) (fun a26 =>
 some (a26, S))
 else
 bnd (f_X8_valueOwnedBy N S 18 v1) (fun a28 =>
 some (a28, S))))))))))))
set_option maxRecDepth 20000 in
theorem v_X11_personIs_e {ε : eT} {κ : kT} {N : Nat} (C : Act ε κ cX11_personIs 3 RX11 4) {S : St} {res : (Int32 × St)} (X : RI ε κ (some .int) (some (.int res.1)) res.2) {v1 : Int32} {v2 : Int32} (h : f_X11_personIs N S v1 v2 = some res) : V ε κ 3 0 [(0, .ref (eA ε 0)), (1, .int v1), (2, .int v2)] [] (wsOf ε S) 0 0 := by
  unfold f_X11_personIs at h
  refine V_aload_n C 0 dX11_personIs_0 rfl rfl ?_
  refine V_iload_n C 1 dX11_personIs_1 rfl rfl ?_
  obtain ⟨a2, e1, h⟩ := bnd_s h
  refine W_callvi C cf_X11_isPerson (c_X11_isPerson e1) q_ML_X11_100 (ws_X11 sk_0) rfl dX11_personIs_2 (by decide) rfl rfl (Nat.le_of_ble_eq_true rfl) ?_
  refine V_if_eq C dX11_personIs_5 rfl (fun c3 => ?_) (fun c3 => ?_)
  · replace h := ifp c3 h
    refine V_sub C [0] rfl ?_
    exact v_X11_personIs_17 C X h
  · replace h := ifn c3 h
    refine V_iload_n C 2 dX11_personIs_8 rfl rfl ?_
    refine V_bipush C dX11_personIs_9 kc_b_6 ?_
    obtain ⟨a5, e4, h⟩ := bnd_s h
    refine W_callsi C cf_X11_within (c_X11_within e4) q_ML_X11_75 dX11_personIs_11 (by decide) rfl rfl (Nat.le_of_ble_eq_true rfl) ?_
    refine V_if_ne C dX11_personIs_14 rfl (fun c6 => ?_) (fun c6 => ?_)
    · replace h := ifn c6 h
      refine V_iload_n C 2 dX11_personIs_23 rfl rfl ?_
      by_cases c7 : v2 = 0
      · replace h := ifp c7 h
        refine V_table C rfl dX11_personIs_24 (off := 40) (by rw [c7]; decide +kernel) (tgt := 64) rfl ?_
        refine V_aload_n C 0 dX11_personIs_64 rfl rfl ?_
        refine G_X11_now (q := 0) C sk_0 q_FL_X11_21 dX11_personIs_65 ?_
        refine G_X9_people (q := 8) C sk_8 q_FL_X11_86 dX11_personIs_68 ?_
        refine G_X3_kinds (q := 9) C sk_9 q_FL_X11_103 dX11_personIs_71 ?_
        refine V_iload_n C 1 dX11_personIs_74 rfl rfl ?_
        obtain ⟨a14, e13, h⟩ := bnd_s h
        refine W_callvi C cf_X5_at (c_X5_at sk_10 e13) q_ML_X11_106 (ws_X5 sk_10) rfl dX11_personIs_75 (by decide) rfl rfl (Nat.le_of_ble_eq_true rfl) ?_
        exact V_iret C X dX11_personIs_78 ⟨ri_1 h, ri_2 h⟩
      · replace h := ifn c7 h
        by_cases c8 : v2 = 1
        · replace h := ifp c8 h
          refine V_table C rfl dX11_personIs_24 (off := 55) (by rw [c8]; decide +kernel) (tgt := 79) rfl ?_
          refine V_aload_n C 0 dX11_personIs_79 rfl rfl ?_
          refine G_X11_now (q := 0) C sk_0 q_FL_X11_21 dX11_personIs_80 ?_
          refine G_X9_people (q := 8) C sk_8 q_FL_X11_86 dX11_personIs_83 ?_
          refine G_X3_purses (q := 9) C sk_9 q_FL_X11_109 dX11_personIs_86 ?_
          refine V_iload_n C 1 dX11_personIs_89 rfl rfl ?_
          obtain ⟨a16, e15, h⟩ := bnd_s h
          refine W_callvi C cf_X5_at (c_X5_at sk_12 e15) q_ML_X11_106 (ws_X5 sk_12) rfl dX11_personIs_90 (by decide) rfl rfl (Nat.le_of_ble_eq_true rfl) ?_
          exact V_iret C X dX11_personIs_93 ⟨ri_1 h, ri_2 h⟩
        · replace h := ifn c8 h
          by_cases c9 : v2 = 2
          · replace h := ifp c9 h
            refine V_table C rfl dX11_personIs_24 (off := 70) (by rw [c9]; decide +kernel) (tgt := 94) rfl ?_
            refine V_aload_n C 0 dX11_personIs_94 rfl rfl ?_
            refine G_X11_now (q := 0) C sk_0 q_FL_X11_21 dX11_personIs_95 ?_
            refine G_X9_people (q := 8) C sk_8 q_FL_X11_86 dX11_personIs_98 ?_
            refine G_X3_chances (q := 9) C sk_9 q_FL_X11_112 dX11_personIs_101 ?_
            refine V_iload_n C 1 dX11_personIs_104 rfl rfl ?_
            obtain ⟨a18, e17, h⟩ := bnd_s h
            refine W_callvi C cf_X5_at (c_X5_at sk_14 e17) q_ML_X11_106 (ws_X5 sk_14) rfl dX11_personIs_105 (by decide) rfl rfl (Nat.le_of_ble_eq_true rfl) ?_
            refine V_bipush C dX11_personIs_108 kc_b_10 ?_
            refine V_imul C dX11_personIs_110 ?_
            refine V_aload_n C 0 dX11_personIs_111 rfl rfl ?_
            refine G_X11_now (q := 0) C sk_0 q_FL_X11_21 dX11_personIs_112 ?_
            refine G_X9_people (q := 8) C sk_8 q_FL_X11_86 dX11_personIs_115 ?_
            refine G_X3_outOf (q := 9) C sk_9 q_FL_X11_115 dX11_personIs_118 ?_
            refine V_iload_n C 1 dX11_personIs_121 rfl rfl ?_
            obtain ⟨a20, e19, h⟩ := bnd_s h
            refine W_callvi C cf_X5_at (c_X5_at sk_16 e19) q_ML_X11_106 (ws_X5 sk_16) rfl dX11_personIs_122 (by decide) rfl rfl (Nat.le_of_ble_eq_true rfl) ?_
            refine V_iadd C dX11_personIs_125 ?_
            exact V_iret C X dX11_personIs_126 ⟨ri_1 h, ri_2 h⟩
          · replace h := ifn c9 h
            by_cases c10 : v2 = 3
            · replace h := ifp c10 h
              refine V_table C rfl dX11_personIs_24 (off := 103) (by rw [c10]; decide +kernel) (tgt := 127) rfl ?_
              refine V_aload_n C 0 dX11_personIs_127 rfl rfl ?_
              refine G_X11_now (q := 0) C sk_0 q_FL_X11_21 dX11_personIs_128 ?_
              refine G_X9_things (q := 8) C sk_8 q_FL_X11_118 dX11_personIs_131 ?_
              refine V_iload_n C 1 dX11_personIs_134 rfl rfl ?_
              obtain ⟨a22, e21, h⟩ := bnd_s h
              refine W_callvi C cf_X8_ownedBy (c_X8_ownedBy sk_18 e21) q_ML_X11_122 (ws_X8 sk_18) rfl dX11_personIs_135 (by decide) rfl rfl (Nat.le_of_ble_eq_true rfl) ?_
              exact V_iret C X dX11_personIs_138 ⟨ri_1 h, ri_2 h⟩
            · replace h := ifn c10 h
              by_cases c11 : v2 = 4
              · replace h := ifp c11 h
                refine V_table C rfl dX11_personIs_24 (off := 115) (by rw [c11]; decide +kernel) (tgt := 139) rfl ?_
                refine V_aload_n C 0 dX11_personIs_139 rfl rfl ?_
                refine G_X11_now (q := 0) C sk_0 q_FL_X11_21 dX11_personIs_140 ?_
                refine G_X9_things (q := 8) C sk_8 q_FL_X11_118 dX11_personIs_143 ?_
                refine V_iload_n C 1 dX11_personIs_146 rfl rfl ?_
                obtain ⟨a24, e23, h⟩ := bnd_s h
                refine W_callvi C cf_X8_keptBy (c_X8_keptBy sk_18 e23) q_ML_X11_127 (ws_X8 sk_18) rfl dX11_personIs_147 (by decide) rfl rfl (Nat.le_of_ble_eq_true rfl) ?_
                exact V_iret C X dX11_personIs_150 ⟨ri_1 h, ri_2 h⟩
              · replace h := ifn c11 h
                by_cases c12 : v2 = 5
                · replace h := ifp c12 h
                  refine V_table C rfl dX11_personIs_24 (off := 127) (by rw [c12]; decide +kernel) (tgt := 151) rfl ?_
                  refine V_aload_n C 0 dX11_personIs_151 rfl rfl ?_
                  refine G_X11_now (q := 0) C sk_0 q_FL_X11_21 dX11_personIs_152 ?_
                  refine V_iload_n C 1 dX11_personIs_155 rfl rfl ?_
                  obtain ⟨a26, e25, h⟩ := bnd_s h
                  refine W_callvi C cf_X9_lackedBy (c_X9_lackedBy sk_8 e25) q_ML_X11_130 (ws_X9 sk_8) rfl dX11_personIs_156 (by decide) rfl rfl (Nat.le_of_ble_eq_true rfl) ?_
                  exact V_iret C X dX11_personIs_159 ⟨ri_1 h, ri_2 h⟩
                · replace h := ifn c12 h
                  refine V_table C rfl dX11_personIs_24 (swt_d [(0 : Int32), (1 : Int32), (2 : Int32), (3 : Int32), (4 : Int32), (5 : Int32)] (List.forall_mem_cons.mpr ⟨c7, (List.forall_mem_cons.mpr ⟨c8, (List.forall_mem_cons.mpr ⟨c9, (List.forall_mem_cons.mpr ⟨c10, (List.forall_mem_cons.mpr ⟨c11, (List.forall_mem_cons.mpr ⟨c12, (fun _ h => absurd h List.not_mem_nil)⟩)⟩)⟩)⟩)⟩)⟩) rfl (by decide +kernel)) (tgt := 160) rfl ?_
                  refine V_aload_n C 0 dX11_personIs_160 rfl rfl ?_
                  refine G_X11_now (q := 0) C sk_0 q_FL_X11_21 dX11_personIs_161 ?_
                  refine G_X9_things (q := 8) C sk_8 q_FL_X11_118 dX11_personIs_164 ?_
                  refine V_iload_n C 1 dX11_personIs_167 rfl rfl ?_
                  obtain ⟨a28, e27, h⟩ := bnd_s h
                  refine W_callvi C cf_X8_valueOwnedBy (c_X8_valueOwnedBy sk_18 e27) q_ML_X11_133 (ws_X8 sk_18) rfl dX11_personIs_168 (by decide) rfl rfl (Nat.le_of_ble_eq_true rfl) ?_
                  exact V_iret C X dX11_personIs_171 ⟨ri_1 h, ri_2 h⟩
    · replace h := ifp c6 h
      refine V_sub C [0] rfl ?_
      exact v_X11_personIs_17 C X h
theorem c_X11_personIs {ε : eT} {N : Nat} {S : St} {v1 : Int32} {v2 : Int32} {res : (Int32 × St)} (h : f_X11_personIs N S v1 v2 = some res) : CI ε yX11_personIs cX11_personIs 3 (some .int) 4 [.ref (eA ε 0), .int v1, .int v2] S (some (.int res.1)) res.2 := CI_of (by decide) (Nat.le_of_ble_eq_true rfl) rfl (fun κ C X => v_X11_personIs_e C X h)
def f_X11_price_18 (S : St) : Option (Int32 × St) :=
 bnd2 (f_X11_fail S (1 : Int32)) (fun a2 S3 =>
 some (a2, S3))
set_option maxRecDepth 20000 in
theorem v_X11_price_18 {ε : eT} {κ : kT} (C : Act ε κ cX11_price 3 RX11 4) {S : St} {res : (Int32 × St)} (X : RI ε κ (some .int) (some (.int res.1)) res.2) (h : f_X11_price_18 S = some res) : V ε κ 3 18 [(0, .ref (eA ε 0))] [] (wsOf ε S) 0 0 := by
  unfold f_X11_price_18 at h
  refine V_aload_n C 0 dX11_price_18 rfl rfl ?_
  refine V_iconst C dX11_price_19 kc_i_1 ?_
  obtain ⟨a2, S3, e1, h⟩ := bnd2_s h
  refine W_callvi C cf_X11_fail (c_X11_fail e1) q_ML_X11_82 (ws_X11 sk_0) rfl dX11_price_20 (by decide) rfl rfl (Nat.le_of_ble_eq_true rfl) ?_
  exact V_iret C X dX11_price_23 ⟨ri_1 h, ri_2 h⟩
def f_X11_price (S : St) (v1 : Int32) (v2 : Int32) : Option (Int32 × St) :=
 bnd (f_X11_isThing S v1) (fun a2 =>
 (if a2 = 0 then
 f_X11_price_18 S
 else
 bnd (f_X11_within S v2 (9999 : Int32)) (fun a5 =>
 (if a5 = 0 then
 f_X11_price_18 S
 else
 bnd2 (f_X5_swap S 21 v1 v2) (fun a8 S9 =>
 some (a8, S9))))))
set_option maxRecDepth 20000 in
theorem v_X11_price_e {ε : eT} {κ : kT} (C : Act ε κ cX11_price 3 RX11 4) {S : St} {res : (Int32 × St)} (X : RI ε κ (some .int) (some (.int res.1)) res.2) {v1 : Int32} {v2 : Int32} (h : f_X11_price S v1 v2 = some res) : V ε κ 3 0 [(0, .ref (eA ε 0)), (1, .int v1), (2, .int v2)] [] (wsOf ε S) 0 0 := by
  unfold f_X11_price at h
  refine V_aload_n C 0 dX11_price_0 rfl rfl ?_
  refine V_iload_n C 1 dX11_price_1 rfl rfl ?_
  obtain ⟨a2, e1, h⟩ := bnd_s h
  refine W_callvi C cf_X11_isThing (c_X11_isThing e1) q_ML_X11_147 (ws_X11 sk_0) rfl dX11_price_2 (by decide) rfl rfl (Nat.le_of_ble_eq_true rfl) ?_
  refine V_if_eq C dX11_price_5 rfl (fun c3 => ?_) (fun c3 => ?_)
  · replace h := ifp c3 h
    refine V_sub C [0] rfl ?_
    exact v_X11_price_18 C X h
  · replace h := ifn c3 h
    refine V_iload_n C 2 dX11_price_8 rfl rfl ?_
    refine V_sipush C dX11_price_9 kc_s_9999 ?_
    obtain ⟨a5, e4, h⟩ := bnd_s h
    refine W_callsi C cf_X11_within (c_X11_within e4) q_ML_X11_75 dX11_price_12 (by decide) rfl rfl (Nat.le_of_ble_eq_true rfl) ?_
    refine V_if_ne C dX11_price_15 rfl (fun c6 => ?_) (fun c6 => ?_)
    · replace h := ifn c6 h
      refine V_aload_n C 0 dX11_price_24 rfl rfl ?_
      refine G_X11_now (q := 0) C sk_0 q_FL_X11_21 dX11_price_25 ?_
      refine G_X9_things (q := 8) C sk_8 q_FL_X11_118 dX11_price_28 ?_
      refine G_X8_prices (q := 18) C sk_18 q_FL_X11_153 dX11_price_31 ?_
      refine V_iload_n C 1 dX11_price_34 rfl rfl ?_
      refine V_iload_n C 2 dX11_price_35 rfl rfl ?_
      obtain ⟨a8, S9, e7, h⟩ := bnd2_s h
      refine W_callvi C cf_X5_swap (c_X5_swap sk_21 e7) q_ML_X11_139 (ws_X5 sk_21) rfl dX11_price_36 (by decide) rfl rfl (Nat.le_of_ble_eq_true rfl) ?_
      exact V_iret C X dX11_price_39 ⟨ri_1 h, ri_2 h⟩
    · replace h := ifp c6 h
      refine V_sub C [0] rfl ?_
      exact v_X11_price_18 C X h
theorem c_X11_price {ε : eT} {S : St} {v1 : Int32} {v2 : Int32} {res : (Int32 × St)} (h : f_X11_price S v1 v2 = some res) : CI ε yX11_price cX11_price 3 (some .int) 4 [.ref (eA ε 0), .int v1, .int v2] S (some (.int res.1)) res.2 := CI_of (by decide) (Nat.le_of_ble_eq_true rfl) rfl (fun κ C X => v_X11_price_e C X h)
def f_X11_purse_17 (S : St) : Option (Int32 × St) :=
 bnd2 (f_X11_fail S (1 : Int32)) (fun a2 S3 =>
 some (a2, S3))
set_option maxRecDepth 20000 in
theorem v_X11_purse_17 {ε : eT} {κ : kT} (C : Act ε κ cX11_purse 3 RX11 4) {S : St} {res : (Int32 × St)} (X : RI ε κ (some .int) (some (.int res.1)) res.2) (h : f_X11_purse_17 S = some res) : V ε κ 3 17 [(0, .ref (eA ε 0))] [] (wsOf ε S) 0 0 := by
  unfold f_X11_purse_17 at h
  refine V_aload_n C 0 dX11_purse_17 rfl rfl ?_
  refine V_iconst C dX11_purse_18 kc_i_1 ?_
  obtain ⟨a2, S3, e1, h⟩ := bnd2_s h
  refine W_callvi C cf_X11_fail (c_X11_fail e1) q_ML_X11_82 (ws_X11 sk_0) rfl dX11_purse_19 (by decide) rfl rfl (Nat.le_of_ble_eq_true rfl) ?_
  exact V_iret C X dX11_purse_22 ⟨ri_1 h, ri_2 h⟩
def f_X11_purse (S : St) (v1 : Int32) (v2 : Int32) : Option (Int32 × St) :=
 bnd (f_X11_isPerson S v1) (fun a2 =>
 (if a2 = 0 then
 f_X11_purse_17 S
 else
 bnd (f_X11_within S v2 (999999 : Int32)) (fun a5 =>
 (if a5 = 0 then
 f_X11_purse_17 S
 else
 bnd2 (f_X5_swap S 12 v1 v2) (fun a8 S9 =>
 some (a8, S9))))))
set_option maxRecDepth 20000 in
theorem v_X11_purse_e {ε : eT} {κ : kT} (C : Act ε κ cX11_purse 3 RX11 4) {S : St} {res : (Int32 × St)} (X : RI ε κ (some .int) (some (.int res.1)) res.2) {v1 : Int32} {v2 : Int32} (h : f_X11_purse S v1 v2 = some res) : V ε κ 3 0 [(0, .ref (eA ε 0)), (1, .int v1), (2, .int v2)] [] (wsOf ε S) 0 0 := by
  unfold f_X11_purse at h
  refine V_aload_n C 0 dX11_purse_0 rfl rfl ?_
  refine V_iload_n C 1 dX11_purse_1 rfl rfl ?_
  obtain ⟨a2, e1, h⟩ := bnd_s h
  refine W_callvi C cf_X11_isPerson (c_X11_isPerson e1) q_ML_X11_100 (ws_X11 sk_0) rfl dX11_purse_2 (by decide) rfl rfl (Nat.le_of_ble_eq_true rfl) ?_
  refine V_if_eq C dX11_purse_5 rfl (fun c3 => ?_) (fun c3 => ?_)
  · replace h := ifp c3 h
    refine V_sub C [0] rfl ?_
    exact v_X11_purse_17 C X h
  · replace h := ifn c3 h
    refine V_iload_n C 2 dX11_purse_8 rfl rfl ?_
    refine V_ldc C q_K_X11_74 dX11_purse_9 ?_
    obtain ⟨a5, e4, h⟩ := bnd_s h
    refine W_callsi C cf_X11_within (c_X11_within e4) q_ML_X11_75 dX11_purse_11 (by decide) rfl rfl (Nat.le_of_ble_eq_true rfl) ?_
    refine V_if_ne C dX11_purse_14 rfl (fun c6 => ?_) (fun c6 => ?_)
    · replace h := ifn c6 h
      refine V_aload_n C 0 dX11_purse_23 rfl rfl ?_
      refine G_X11_now (q := 0) C sk_0 q_FL_X11_21 dX11_purse_24 ?_
      refine G_X9_people (q := 8) C sk_8 q_FL_X11_86 dX11_purse_27 ?_
      refine G_X3_purses (q := 9) C sk_9 q_FL_X11_109 dX11_purse_30 ?_
      refine V_iload_n C 1 dX11_purse_33 rfl rfl ?_
      refine V_iload_n C 2 dX11_purse_34 rfl rfl ?_
      obtain ⟨a8, S9, e7, h⟩ := bnd2_s h
      refine W_callvi C cf_X5_swap (c_X5_swap sk_12 e7) q_ML_X11_139 (ws_X5 sk_12) rfl dX11_purse_35 (by decide) rfl rfl (Nat.le_of_ble_eq_true rfl) ?_
      exact V_iret C X dX11_purse_38 ⟨ri_1 h, ri_2 h⟩
    · replace h := ifp c6 h
      refine V_sub C [0] rfl ?_
      exact v_X11_purse_17 C X h
theorem c_X11_purse {ε : eT} {S : St} {v1 : Int32} {v2 : Int32} {res : (Int32 × St)} (h : f_X11_purse S v1 v2 = some res) : CI ε yX11_purse cX11_purse 3 (some .int) 4 [.ref (eA ε 0), .int v1, .int v2] S (some (.int res.1)) res.2 := CI_of (by decide) (Nat.le_of_ble_eq_true rfl) rfl (fun κ C X => v_X11_purse_e C X h)
def f_X11_put (S : St) (v1 : Int32) (v2 : Int32) (v3 : Int32) : Option (Int32 × St) :=
 bnd (f_X11_sheetAt S v1) (fun o4 => oel o4
 (bnd2 (f_X11_fail S (1 : Int32)) (fun a20 S21 =>
 some (a20, S21)))
 (fun a2 => (if sh a2 = 6 then
 bnd (f_X6_isMissing S a2) (fun a6 =>
 (if a6 = 0 then
 bnd (f_X6_holds S a2 v2 (1 : Int32)) (fun a9 =>
 (if a9 = 0 then
 bnd2 (f_X11_fail S (1 : Int32)) (fun a14 S15 =>
 some (a14, S15))
 else
 bnd (f_X6_write S a2 v2 v3) (fun S12 =>
 some ((1 : Int32), S12))))
 else
 bnd2 (f_X11_fail S (2 : Int32)) (fun a17 S18 =>
 some (a17, S18))))
 else none)))
set_option maxRecDepth 20000 in
theorem v_X11_put_e {ε : eT} {κ : kT} (C : Act ε κ cX11_put 5 RX11 3) {S : St} {res : (Int32 × St)} (X : RI ε κ (some .int) (some (.int res.1)) res.2) {v1 : Int32} {v2 : Int32} {v3 : Int32} (h : f_X11_put S v1 v2 v3 = some res) : V ε κ 5 0 [(0, .ref (eA ε 0)), (1, .int v1), (2, .int v2), (3, .int v3)] [] (wsOf ε S) 0 0 := by
  unfold f_X11_put at h
  refine V_aload_n C 0 dX11_put_0 rfl rfl ?_
  refine V_iload_n C 1 dX11_put_1 rfl rfl ?_
  obtain ⟨o4, e1, h⟩ := bnd_s h
  cases o4 with
  | none =>
    replace h := oel_n h
    refine W_callvz C cf_X11_sheetAt (c_X11_sheetAt e1) q_ML_X11_302 (ws_X11 sk_0) rfl dX11_put_2 (by decide) rfl rfl (Nat.le_of_ble_eq_true rfl) ?_
    refine V_astoreN (lv' := [(4, .null), (0, .ref (eA ε 0)), (1, .int v1), (2, .int v2), (3, .int v3)]) C dX11_put_5 (by decide) rfl ?_
    refine V_aloadN C 0 dX11_put_7 rfl ?_
    refine V_ifnonnullN C dX11_put_9 ?_
    refine V_aload_n C 1 dX11_put_12 rfl rfl ?_
    refine V_iconst C dX11_put_13 kc_i_1 ?_
    obtain ⟨a20, S21, e19, h⟩ := bnd2_s h
    refine W_callvi C cf_X11_fail (c_X11_fail e19) q_ML_X11_82 (ws_X11 sk_0) rfl dX11_put_14 (by decide) rfl rfl (Nat.le_of_ble_eq_true rfl) ?_
    exact V_iret C X dX11_put_17 ⟨ri_1 h, ri_2 h⟩
  | some a2 =>
    replace h := oel_s h
    obtain ⟨hq3, h⟩ := gdt h
    refine W_callva C cf_X11_sheetAt (c_X11_sheetAt e1) q_ML_X11_302 (ws_X11 sk_0) rfl dX11_put_2 (by decide) rfl rfl (Nat.le_of_ble_eq_true rfl) ?_
    refine V_astore (lv' := [(4, .ref (eA ε a2)), (0, .ref (eA ε 0)), (1, .int v1), (2, .int v2), (3, .int v3)]) C dX11_put_5 (by decide) rfl ?_
    refine V_aload C 0 dX11_put_7 rfl ?_
    refine V_ifnonnull C dX11_put_9 rfl ?_
    refine V_aload C 0 dX11_put_18 rfl ?_
    obtain ⟨a6, e5, h⟩ := bnd_s h
    refine W_callvi C cf_X6_isMissing (c_X6_isMissing hq3 e5) q_ML_X11_312 (ws_X6 hq3) rfl dX11_put_20 (by decide) rfl rfl (Nat.le_of_ble_eq_true rfl) ?_
    refine V_if_eq C dX11_put_23 rfl (fun c7 => ?_) (fun c7 => ?_)
    · replace h := ifp c7 h
      refine V_aload C 0 dX11_put_32 rfl ?_
      refine V_iload_n C 3 dX11_put_34 rfl rfl ?_
      refine V_iconst C dX11_put_35 kc_i_1 ?_
      obtain ⟨a9, e8, h⟩ := bnd_s h
      refine W_callvi C cf_X6_holds (c_X6_holds hq3 e8) q_ML_X11_315 (ws_X6 hq3) rfl dX11_put_36 (by decide) rfl rfl (Nat.le_of_ble_eq_true rfl) ?_
      refine V_if_ne C dX11_put_39 rfl (fun c10 => ?_) (fun c10 => ?_)
      · replace h := ifn c10 h
        refine V_aload C 0 dX11_put_48 rfl ?_
        refine V_iload_n C 3 dX11_put_50 rfl rfl ?_
        refine V_iload_n C 4 dX11_put_51 rfl rfl ?_
        obtain ⟨S12, e11, h⟩ := bnd_s h
        refine W_callvn C cf_X6_write (c_X6_write hq3 e11) q_ML_X11_318 (ws_X6 hq3) rfl dX11_put_52 (by decide) rfl rfl (Nat.le_of_ble_eq_true rfl) ?_
        refine V_iconst C dX11_put_55 kc_i_1 ?_
        exact V_iret C X dX11_put_56 ⟨ri_1 h, ri_2 h⟩
      · replace h := ifp c10 h
        refine V_aload_n C 1 dX11_put_42 rfl rfl ?_
        refine V_iconst C dX11_put_43 kc_i_1 ?_
        obtain ⟨a14, S15, e13, h⟩ := bnd2_s h
        refine W_callvi C cf_X11_fail (c_X11_fail e13) q_ML_X11_82 (ws_X11 sk_0) rfl dX11_put_44 (by decide) rfl rfl (Nat.le_of_ble_eq_true rfl) ?_
        exact V_iret C X dX11_put_47 ⟨ri_1 h, ri_2 h⟩
    · replace h := ifn c7 h
      refine V_aload_n C 1 dX11_put_26 rfl rfl ?_
      refine V_iconst C dX11_put_27 kc_i_2 ?_
      obtain ⟨a17, S18, e16, h⟩ := bnd2_s h
      refine W_callvi C cf_X11_fail (c_X11_fail e16) q_ML_X11_82 (ws_X11 sk_0) rfl dX11_put_28 (by decide) rfl rfl (Nat.le_of_ble_eq_true rfl) ?_
      exact V_iret C X dX11_put_31 ⟨ri_1 h, ri_2 h⟩
theorem c_X11_put {ε : eT} {S : St} {v1 : Int32} {v2 : Int32} {v3 : Int32} {res : (Int32 × St)} (h : f_X11_put S v1 v2 v3 = some res) : CI ε yX11_put cX11_put 5 (some .int) 3 [.ref (eA ε 0), .int v1, .int v2, .int v3] S (some (.int res.1)) res.2 := CI_of (by decide) (Nat.le_of_ble_eq_true rfl) rfl (fun κ C X => v_X11_put_e C X h)
def f_X11_restore (S : St) : Option (Int32 × St) :=
 (if (S.1 0 8) = 0 then
 bnd2 (f_X11_fail S (2 : Int32)) (fun a5 S6 =>
 some (a5, S6))
 else
 bnd (f_X9_copy S 8 102) (fun S3 =>
 some ((S3.1 8 11), S3)))
set_option maxRecDepth 20000 in
theorem v_X11_restore_e {ε : eT} {κ : kT} (C : Act ε κ cX11_restore 1 RX11 5) {S : St} {res : (Int32 × St)} (X : RI ε κ (some .int) (some (.int res.1)) res.2) (h : f_X11_restore S = some res) : V ε κ 1 0 [(0, .ref (eA ε 0))] [] (wsOf ε S) 0 0 := by
  unfold f_X11_restore at h
  refine V_aload_n C 0 dX11_restore_0 rfl rfl ?_
  refine G_X11_images (q := 0) C sk_0 q_FL_X11_64 dX11_restore_1 ?_
  refine V_if_ne C dX11_restore_4 rfl (fun c1 => ?_) (fun c1 => ?_)
  · replace h := ifn c1 h
    refine V_aload_n C 0 dX11_restore_13 rfl rfl ?_
    refine G_X11_now (q := 0) C sk_0 q_FL_X11_21 dX11_restore_14 ?_
    refine V_aload_n C 0 dX11_restore_17 rfl rfl ?_
    refine G_X11_kept (q := 0) C sk_0 q_FL_X11_28 dX11_restore_18 ?_
    obtain ⟨S3, e2, h⟩ := bnd_s h
    refine W_callvn C cf_X9_copy (c_X9_copy sk_8 sk_102 e2) q_ML_X11_280 (ws_X9 sk_8) rfl dX11_restore_21 (by decide) rfl rfl (Nat.le_of_ble_eq_true rfl) ?_
    refine V_aload_n C 0 dX11_restore_24 rfl rfl ?_
    refine G_X11_now (q := 0) C sk_0 q_FL_X11_21 dX11_restore_25 ?_
    refine G_X9_years (q := 8) C sk_8 q_FL_X11_232 dX11_restore_28 ?_
    exact V_iret C X dX11_restore_31 ⟨ri_1 h, ri_2 h⟩
  · replace h := ifp c1 h
    refine V_aload_n C 0 dX11_restore_7 rfl rfl ?_
    refine V_iconst C dX11_restore_8 kc_i_2 ?_
    obtain ⟨a5, S6, e4, h⟩ := bnd2_s h
    refine W_callvi C cf_X11_fail (c_X11_fail e4) q_ML_X11_82 (ws_X11 sk_0) rfl dX11_restore_9 (by decide) rfl rfl (Nat.le_of_ble_eq_true rfl) ?_
    exact V_iret C X dX11_restore_12 ⟨ri_1 h, ri_2 h⟩
theorem c_X11_restore {ε : eT} {S : St} {res : (Int32 × St)} (h : f_X11_restore S = some res) : CI ε yX11_restore cX11_restore 1 (some .int) 5 [.ref (eA ε 0)] S (some (.int res.1)) res.2 := CI_of (by decide) (Nat.le_of_ble_eq_true rfl) rfl (fun κ C X => v_X11_restore_e C X h)
def f_X11_right_28 (N : Nat) : Nat → St → Int32 → Option (Int32 × St)
  | 0, _, _ => none
  | n + 1, S, v2 =>
    (if (99 : Int32) < v2 then
     bnd2 (f_X11_fail S (2 : Int32)) (fun a3 S4 =>
     some (a3, S4))
     else
     bnd (f_X2_bestPrice N S v2) (fun a6 =>
     (if a6 = (S.1 1 4) then
     some (v2, S)
     else
     f_X11_right_28 N n S (v2 + 1))))
set_option maxRecDepth 20000 in
theorem v_X11_right_28 {ε : eT} {κ : kT} {N : Nat} (C : Act ε κ cX11_right 3 RX11 5) {res : (Int32 × St)} (X : RI ε κ (some .int) (some (.int res.1)) res.2) : ∀ (n : Nat) (S : St) (v2 : Int32) (h : f_X11_right_28 N n S v2 = some res), V ε κ 3 28 [(0, .ref (eA ε 0)), (2, .int v2)] [] (wsOf ε S) 0 0 := by
  intro n
  induction n with
  | zero => intro S v2 h; cases h
  | succ n ih =>
    intro S v2 h
    rw [f_X11_right_28] at h
    refine V_iload_n C 1 dX11_right_28 rfl rfl ?_
    refine V_bipush C dX11_right_29 kc_b_99 ?_
    refine V_icmp_gt C dX11_right_31 rfl (fun c1 => ?_) (fun c1 => ?_)
    · replace h := ifp c1 h
      refine V_aload_n C 0 dX11_right_60 rfl rfl ?_
      refine V_iconst C dX11_right_61 kc_i_2 ?_
      obtain ⟨a3, S4, e2, h⟩ := bnd2_s h
      refine W_callvi C cf_X11_fail (c_X11_fail e2) q_ML_X11_82 (ws_X11 sk_0) rfl dX11_right_62 (by decide) rfl rfl (Nat.le_of_ble_eq_true rfl) ?_
      exact V_iret C X dX11_right_65 ⟨ri_1 h, ri_2 h⟩
    · replace h := ifn c1 h
      refine V_aload_n C 0 dX11_right_34 rfl rfl ?_
      refine G_X11_market (q := 0) C sk_0 q_FL_X11_10 dX11_right_35 ?_
      refine V_iload_n C 1 dX11_right_38 rfl rfl ?_
      obtain ⟨a6, e5, h⟩ := bnd_s h
      refine W_callvi C cf_X2_bestPrice (c_X2_bestPrice e5) q_ML_X11_268 (ws_X2 sk_1) rfl dX11_right_39 (by decide) rfl rfl (Nat.le_of_ble_eq_true rfl) ?_
      refine V_aload_n C 0 dX11_right_42 rfl rfl ?_
      refine G_X11_market (q := 0) C sk_0 q_FL_X11_10 dX11_right_43 ?_
      refine G_X2_own (q := 1) C sk_1 q_FL_X11_271 dX11_right_46 ?_
      refine V_icmp_ne C dX11_right_49 rfl (fun c7 => ?_) (fun c7 => ?_)
      · replace h := ifn c7 h
        refine V_iinc (v := (v2 + 1)) (lv' := [(2, .int (v2 + 1)), (0, .ref (eA ε 0))]) C 1 dX11_right_54 rfl (congrArg _ kc_i_1) (by decide) rfl ?_
        refine V_goto C dX11_right_57 rfl ?_
        refine V_sub C [1, 0] rfl ?_
        exact ih _ _ h
      · replace h := ifp c7 h
        refine V_iload_n C 1 dX11_right_52 rfl rfl ?_
        exact V_iret C X dX11_right_53 ⟨ri_1 h, ri_2 h⟩
def f_X11_right (N : Nat) (S : St) (v1 : Int32) : Option (Int32 × St) :=
 bnd (f_X11_isThing S v1) (fun a2 =>
 (if a2 = 0 then
 bnd2 (f_X11_fail S (1 : Int32)) (fun a7 S8 =>
 some (a7, S8))
 else
 bnd (f_X2_look N S 8 v1) (fun S5 =>
 f_X11_right_28 N N S5 (0 : Int32))))
set_option maxRecDepth 20000 in
theorem v_X11_right_e {ε : eT} {κ : kT} {N : Nat} (C : Act ε κ cX11_right 3 RX11 5) {S : St} {res : (Int32 × St)} (X : RI ε κ (some .int) (some (.int res.1)) res.2) {v1 : Int32} (h : f_X11_right N S v1 = some res) : V ε κ 3 0 [(0, .ref (eA ε 0)), (1, .int v1)] [] (wsOf ε S) 0 0 := by
  unfold f_X11_right at h
  refine V_aload_n C 0 dX11_right_0 rfl rfl ?_
  refine V_iload_n C 1 dX11_right_1 rfl rfl ?_
  obtain ⟨a2, e1, h⟩ := bnd_s h
  refine W_callvi C cf_X11_isThing (c_X11_isThing e1) q_ML_X11_147 (ws_X11 sk_0) rfl dX11_right_2 (by decide) rfl rfl (Nat.le_of_ble_eq_true rfl) ?_
  refine V_if_ne C dX11_right_5 rfl (fun c3 => ?_) (fun c3 => ?_)
  · replace h := ifn c3 h
    refine V_aload_n C 0 dX11_right_14 rfl rfl ?_
    refine G_X11_market (q := 0) C sk_0 q_FL_X11_10 dX11_right_15 ?_
    refine V_aload_n C 0 dX11_right_18 rfl rfl ?_
    refine G_X11_now (q := 0) C sk_0 q_FL_X11_21 dX11_right_19 ?_
    refine V_iload_n C 1 dX11_right_22 rfl rfl ?_
    obtain ⟨S5, e4, h⟩ := bnd_s h
    refine W_callvn C cf_X2_look (c_X2_look sk_8 e4) q_ML_X11_247 (ws_X2 sk_1) rfl dX11_right_23 (by decide) rfl rfl (Nat.le_of_ble_eq_true rfl) ?_
    refine V_iconst C dX11_right_26 kc_i_0 ?_
    refine V_istore_n (lv' := [(2, .int (0 : Int32)), (0, .ref (eA ε 0)), (1, .int v1)]) C dX11_right_27 rfl (by decide) rfl ?_
    refine V_sub C [1, 0] rfl ?_
    exact v_X11_right_28 C X N _ _ h
  · replace h := ifp c3 h
    refine V_aload_n C 0 dX11_right_8 rfl rfl ?_
    refine V_iconst C dX11_right_9 kc_i_1 ?_
    obtain ⟨a7, S8, e6, h⟩ := bnd2_s h
    refine W_callvi C cf_X11_fail (c_X11_fail e6) q_ML_X11_82 (ws_X11 sk_0) rfl dX11_right_10 (by decide) rfl rfl (Nat.le_of_ble_eq_true rfl) ?_
    exact V_iret C X dX11_right_13 ⟨ri_1 h, ri_2 h⟩
theorem c_X11_right {ε : eT} {N : Nat} {S : St} {v1 : Int32} {res : (Int32 × St)} (h : f_X11_right N S v1 = some res) : CI ε yX11_right cX11_right 3 (some .int) 5 [.ref (eA ε 0), .int v1] S (some (.int res.1)) res.2 := CI_of (by decide) (Nat.le_of_ble_eq_true rfl) rfl (fun κ C X => v_X11_right_e C X h)
def f_X11_rule_19 (S : St) : Option (Int32 × St) :=
 bnd2 (f_X11_fail S (1 : Int32)) (fun a2 S3 =>
 some (a2, S3))
set_option maxRecDepth 20000 in
theorem v_X11_rule_19 {ε : eT} {κ : kT} (C : Act ε κ cX11_rule 3 RX11 3) {S : St} {res : (Int32 × St)} (X : RI ε κ (some .int) (some (.int res.1)) res.2) (h : f_X11_rule_19 S = some res) : V ε κ 3 19 [(0, .ref (eA ε 0))] [] (wsOf ε S) 0 0 := by
  unfold f_X11_rule_19 at h
  refine V_aload_n C 0 dX11_rule_19 rfl rfl ?_
  refine V_iconst C dX11_rule_20 kc_i_1 ?_
  obtain ⟨a2, S3, e1, h⟩ := bnd2_s h
  refine W_callvi C cf_X11_fail (c_X11_fail e1) q_ML_X11_82 (ws_X11 sk_0) rfl dX11_rule_21 (by decide) rfl rfl (Nat.le_of_ble_eq_true rfl) ?_
  exact V_iret C X dX11_rule_24 ⟨ri_1 h, ri_2 h⟩
def f_X11_rule (S : St) (v1 : Int32) (v2 : Int32) : Option (Int32 × St) :=
 bnd (f_X11_within S v1 (4 : Int32)) (fun a2 =>
 (if a2 = 0 then
 f_X11_rule_19 S
 else
 bnd (f_X11_highestOfRule S v1) (fun a5 =>
 bnd (f_X11_within S v2 a5) (fun a7 =>
 (if a7 = 0 then
 f_X11_rule_19 S
 else
 bnd2 (f_X5_swap S 35 v1 v2) (fun a10 S11 =>
 some (a10, S11)))))))
set_option maxRecDepth 20000 in
theorem v_X11_rule_e {ε : eT} {κ : kT} (C : Act ε κ cX11_rule 3 RX11 3) {S : St} {res : (Int32 × St)} (X : RI ε κ (some .int) (some (.int res.1)) res.2) {v1 : Int32} {v2 : Int32} (h : f_X11_rule S v1 v2 = some res) : V ε κ 3 0 [(0, .ref (eA ε 0)), (1, .int v1), (2, .int v2)] [] (wsOf ε S) 0 0 := by
  unfold f_X11_rule at h
  refine V_iload_n C 1 dX11_rule_0 rfl rfl ?_
  refine V_iconst C dX11_rule_1 kc_i_4 ?_
  obtain ⟨a2, e1, h⟩ := bnd_s h
  refine W_callsi C cf_X11_within (c_X11_within e1) q_ML_X11_75 dX11_rule_2 (by decide) rfl rfl (Nat.le_of_ble_eq_true rfl) ?_
  refine V_if_eq C dX11_rule_5 rfl (fun c3 => ?_) (fun c3 => ?_)
  · replace h := ifp c3 h
    refine V_sub C [0] rfl ?_
    exact v_X11_rule_19 C X h
  · replace h := ifn c3 h
    refine V_iload_n C 2 dX11_rule_8 rfl rfl ?_
    refine V_iload_n C 1 dX11_rule_9 rfl rfl ?_
    obtain ⟨a5, e4, h⟩ := bnd_s h
    refine W_callsi C cf_X11_highestOfRule (c_X11_highestOfRule e4) q_ML_X11_189 dX11_rule_10 (by decide) rfl rfl (Nat.le_of_ble_eq_true rfl) ?_
    obtain ⟨a7, e6, h⟩ := bnd_s h
    refine W_callsi C cf_X11_within (c_X11_within e6) q_ML_X11_75 dX11_rule_13 (by decide) rfl rfl (Nat.le_of_ble_eq_true rfl) ?_
    refine V_if_ne C dX11_rule_16 rfl (fun c8 => ?_) (fun c8 => ?_)
    · replace h := ifn c8 h
      refine V_aload_n C 0 dX11_rule_25 rfl rfl ?_
      refine G_X11_now (q := 0) C sk_0 q_FL_X11_21 dX11_rule_26 ?_
      refine G_X9_rules (q := 8) C sk_8 q_FL_X11_170 dX11_rule_29 ?_
      refine V_iload_n C 1 dX11_rule_32 rfl rfl ?_
      refine V_iload_n C 2 dX11_rule_33 rfl rfl ?_
      obtain ⟨a10, S11, e9, h⟩ := bnd2_s h
      refine W_callvi C cf_X5_swap (c_X5_swap sk_35 e9) q_ML_X11_139 (ws_X5 sk_35) rfl dX11_rule_34 (by decide) rfl rfl (Nat.le_of_ble_eq_true rfl) ?_
      exact V_iret C X dX11_rule_37 ⟨ri_1 h, ri_2 h⟩
    · replace h := ifp c8 h
      refine V_sub C [0] rfl ?_
      exact v_X11_rule_19 C X h
theorem c_X11_rule {ε : eT} {S : St} {v1 : Int32} {v2 : Int32} {res : (Int32 × St)} (h : f_X11_rule S v1 v2 = some res) : CI ε yX11_rule cX11_rule 3 (some .int) 3 [.ref (eA ε 0), .int v1, .int v2] S (some (.int res.1)) res.2 := CI_of (by decide) (Nat.le_of_ble_eq_true rfl) rfl (fun κ C X => v_X11_rule_e C X h)
def f_X11_seed (S : St) (v1 : Int32) : Option (Int32 × St) :=
 some ((S.1 8 14), (pt S 8 14 v1))
set_option maxRecDepth 20000 in
theorem v_X11_seed_e {ε : eT} {κ : kT} (C : Act ε κ cX11_seed 3 RX11 1) {S : St} {res : (Int32 × St)} (X : RI ε κ (some .int) (some (.int res.1)) res.2) {v1 : Int32} (h : f_X11_seed S v1 = some res) : V ε κ 3 0 [(0, .ref (eA ε 0)), (1, .int v1)] [] (wsOf ε S) 0 0 := by
  unfold f_X11_seed at h
  refine V_aload_n C 0 dX11_seed_0 rfl rfl ?_
  refine G_X11_now (q := 0) C sk_0 q_FL_X11_21 dX11_seed_1 ?_
  refine G_X9_z (q := 8) C sk_8 q_FL_X11_244 dX11_seed_4 ?_
  refine V_istore_n (lv' := [(2, .int (S.1 8 14)), (0, .ref (eA ε 0)), (1, .int v1)]) C dX11_seed_7 rfl (by decide) rfl ?_
  refine V_aload_n C 1 dX11_seed_8 rfl rfl ?_
  refine G_X11_now (q := 0) C sk_0 q_FL_X11_21 dX11_seed_9 ?_
  refine V_iload_n C 2 dX11_seed_12 rfl rfl ?_
  refine P_X9_z (q := 8) C sk_8 q_FL_X11_244 dX11_seed_13 ?_
  refine V_iload_n C 0 dX11_seed_16 rfl rfl ?_
  exact V_iret C X dX11_seed_17 ⟨ri_1 h, ri_2 h⟩
theorem c_X11_seed {ε : eT} {S : St} {v1 : Int32} {res : (Int32 × St)} (h : f_X11_seed S v1 = some res) : CI ε yX11_seed cX11_seed 3 (some .int) 1 [.ref (eA ε 0), .int v1] S (some (.int res.1)) res.2 := CI_of (by decide) (Nat.le_of_ble_eq_true rfl) rfl (fun κ C X => v_X11_seed_e C X h)
def f_X11_sheet_19 (N : Nat) (S : St) : Option (Int32 × St) :=
 bnd2 (f_X11_fail S (1 : Int32)) (fun a2 S3 =>
 some (a2, S3))
set_option maxRecDepth 20000 in
theorem v_X11_sheet_19 {ε : eT} {κ : kT} {N : Nat} (C : Act ε κ cX11_sheet 5 RX11 4) {S : St} {res : (Int32 × St)} (X : RI ε κ (some .int) (some (.int res.1)) res.2) (h : f_X11_sheet_19 N S = some res) : V ε κ 5 19 [(0, .ref (eA ε 0))] [] (wsOf ε S) 0 0 := by
  unfold f_X11_sheet_19 at h
  refine V_aload_n C 0 dX11_sheet_19 rfl rfl ?_
  refine V_iconst C dX11_sheet_20 kc_i_1 ?_
  obtain ⟨a2, S3, e1, h⟩ := bnd2_s h
  refine W_callvi C cf_X11_fail (c_X11_fail e1) q_ML_X11_82 (ws_X11 sk_0) rfl dX11_sheet_21 (by decide) rfl rfl (Nat.le_of_ble_eq_true rfl) ?_
  exact V_iret C X dX11_sheet_24 ⟨ri_1 h, ri_2 h⟩
def f_X11_sheet_55 (N : Nat) (S : St) (v2 : Int32) (v3 : Int32) (v4 : Nat) : Option (Int32 × St) :=
 bnd (f_X6_make N S v4 v2 v3) (fun S2 =>
 some ((1 : Int32), S2))
set_option maxRecDepth 20000 in
theorem v_X11_sheet_55 {ε : eT} {κ : kT} {N : Nat} (C : Act ε κ cX11_sheet 5 RX11 4) {S : St} {res : (Int32 × St)} (X : RI ε κ (some .int) (some (.int res.1)) res.2) {v2 : Int32} {v3 : Int32} {v4 : Nat} (h4 : sh v4 = 6) (h : f_X11_sheet_55 N S v2 v3 v4 = some res) : V ε κ 5 55 [(2, .int v2), (3, .int v3), (4, .ref (eA ε v4))] [] (wsOf ε S) 0 0 := by
  unfold f_X11_sheet_55 at h
  refine V_aload C 2 dX11_sheet_55 rfl ?_
  refine V_iload_n C 0 dX11_sheet_57 rfl rfl ?_
  refine V_iload_n C 1 dX11_sheet_58 rfl rfl ?_
  obtain ⟨S2, e1, h⟩ := bnd_s h
  refine W_callvn C cf_X6_make (c_X6_make h4 e1) q_ML_X11_309 (ws_X6 h4) rfl dX11_sheet_59 (by decide) rfl rfl (Nat.le_of_ble_eq_true rfl) ?_
  refine V_iconst C dX11_sheet_62 kc_i_1 ?_
  exact V_iret C X dX11_sheet_63 ⟨ri_1 h, ri_2 h⟩
def f_X11_sheet_39 (N : Nat) (S : St) (v2 : Int32) (v3 : Int32) (v4 : Nat) : Option (Int32 × St) :=
 (if v2 = 0 then
 f_X11_sheet_55 N S v2 v3 v4
 else
 (if v3 ≤ (24 : Int32) then
 f_X11_sheet_55 N S v2 v3 v4
 else
 bnd2 (f_X11_fail S (1 : Int32)) (fun a4 S5 =>
 some (a4, S5))))
set_option maxRecDepth 20000 in
theorem v_X11_sheet_39 {ε : eT} {κ : kT} {N : Nat} (C : Act ε κ cX11_sheet 5 RX11 4) {S : St} {res : (Int32 × St)} (X : RI ε κ (some .int) (some (.int res.1)) res.2) {v2 : Int32} {v3 : Int32} {v4 : Nat} (h4 : sh v4 = 6) (h : f_X11_sheet_39 N S v2 v3 v4 = some res) : V ε κ 5 39 [(0, .ref (eA ε 0)), (2, .int v2), (3, .int v3), (4, .ref (eA ε v4))] [] (wsOf ε S) 0 0 := by
  unfold f_X11_sheet_39 at h
  refine V_iload_n C 1 dX11_sheet_39 rfl rfl ?_
  refine V_if_eq C dX11_sheet_40 rfl (fun c1 => ?_) (fun c1 => ?_)
  · replace h := ifp c1 h
    refine V_sub C [1, 2, 3] rfl ?_
    exact v_X11_sheet_55 C X h4 h
  · replace h := ifn c1 h
    refine V_iload_n C 2 dX11_sheet_43 rfl rfl ?_
    refine V_bipush C dX11_sheet_44 kc_b_24 ?_
    refine V_icmp_le C dX11_sheet_46 rfl (fun c2 => ?_) (fun c2 => ?_)
    · replace h := ifp c2 h
      refine V_sub C [1, 2, 3] rfl ?_
      exact v_X11_sheet_55 C X h4 h
    · replace h := ifn c2 h
      refine V_aload_n C 0 dX11_sheet_49 rfl rfl ?_
      refine V_iconst C dX11_sheet_50 kc_i_1 ?_
      obtain ⟨a4, S5, e3, h⟩ := bnd2_s h
      refine W_callvi C cf_X11_fail (c_X11_fail e3) q_ML_X11_82 (ws_X11 sk_0) rfl dX11_sheet_51 (by decide) rfl rfl (Nat.le_of_ble_eq_true rfl) ?_
      exact V_iret C X dX11_sheet_54 ⟨ri_1 h, ri_2 h⟩
def f_X11_sheet (N : Nat) (S : St) (v1 : Int32) (v2 : Int32) (v3 : Int32) : Option (Int32 × St) :=
 bnd (f_X11_sheetAt S v1) (fun o4 => oel o4
 (f_X11_sheet_19 N S)
 (fun a2 => (if sh a2 = 6 then
 bnd (f_X6_isWidth S v2) (fun a6 =>
 (if a6 = 0 then
 f_X11_sheet_19 N S
 else
 (if v2 = 0 then
 f_X11_sheet_39 N S v2 v3 a2
 else
 (if 0 ≤ v3 then
 f_X11_sheet_39 N S v2 v3 a2
 else
 bnd2 (f_X11_fail S (3 : Int32)) (fun a11 S12 =>
 some (a11, S12))))))
 else none)))
set_option maxRecDepth 20000 in
theorem v_X11_sheet_e {ε : eT} {κ : kT} {N : Nat} (C : Act ε κ cX11_sheet 5 RX11 4) {S : St} {res : (Int32 × St)} (X : RI ε κ (some .int) (some (.int res.1)) res.2) {v1 : Int32} {v2 : Int32} {v3 : Int32} (h : f_X11_sheet N S v1 v2 v3 = some res) : V ε κ 5 0 [(0, .ref (eA ε 0)), (1, .int v1), (2, .int v2), (3, .int v3)] [] (wsOf ε S) 0 0 := by
  unfold f_X11_sheet at h
  refine V_aload_n C 0 dX11_sheet_0 rfl rfl ?_
  refine V_iload_n C 1 dX11_sheet_1 rfl rfl ?_
  obtain ⟨o4, e1, h⟩ := bnd_s h
  cases o4 with
  | none =>
    replace h := oel_n h
    refine W_callvz C cf_X11_sheetAt (c_X11_sheetAt e1) q_ML_X11_302 (ws_X11 sk_0) rfl dX11_sheet_2 (by decide) rfl rfl (Nat.le_of_ble_eq_true rfl) ?_
    refine V_astoreN (lv' := [(4, .null), (0, .ref (eA ε 0)), (1, .int v1), (2, .int v2), (3, .int v3)]) C dX11_sheet_5 (by decide) rfl ?_
    refine V_aloadN C 0 dX11_sheet_7 rfl ?_
    refine V_ifnullN C dX11_sheet_9 rfl ?_
    refine V_sub C [1] rfl ?_
    exact v_X11_sheet_19 C X h
  | some a2 =>
    replace h := oel_s h
    obtain ⟨hq3, h⟩ := gdt h
    refine W_callva C cf_X11_sheetAt (c_X11_sheetAt e1) q_ML_X11_302 (ws_X11 sk_0) rfl dX11_sheet_2 (by decide) rfl rfl (Nat.le_of_ble_eq_true rfl) ?_
    refine V_astore (lv' := [(4, .ref (eA ε a2)), (0, .ref (eA ε 0)), (1, .int v1), (2, .int v2), (3, .int v3)]) C dX11_sheet_5 (by decide) rfl ?_
    refine V_aload C 0 dX11_sheet_7 rfl ?_
    refine V_ifnull C dX11_sheet_9 ?_
    refine V_iload_n C 3 dX11_sheet_12 rfl rfl ?_
    obtain ⟨a6, e5, h⟩ := bnd_s h
    refine W_callsi C cf_X6_isWidth (c_X6_isWidth e5) q_ML_X11_306 dX11_sheet_13 (by decide) rfl rfl (Nat.le_of_ble_eq_true rfl) ?_
    refine V_if_ne C dX11_sheet_16 rfl (fun c7 => ?_) (fun c7 => ?_)
    · replace h := ifn c7 h
      refine V_iload_n C 3 dX11_sheet_25 rfl rfl ?_
      refine V_if_eq C dX11_sheet_26 rfl (fun c8 => ?_) (fun c8 => ?_)
      · replace h := ifp c8 h
        refine V_sub C [1, 3, 4, 0] rfl ?_
        exact v_X11_sheet_39 C X hq3 h
      · replace h := ifn c8 h
        refine V_iload_n C 4 dX11_sheet_29 rfl rfl ?_
        refine V_if_ge C dX11_sheet_30 rfl (fun c9 => ?_) (fun c9 => ?_)
        · replace h := ifp c9 h
          refine V_sub C [1, 3, 4, 0] rfl ?_
          exact v_X11_sheet_39 C X hq3 h
        · replace h := ifn c9 h
          refine V_aload_n C 1 dX11_sheet_33 rfl rfl ?_
          refine V_iconst C dX11_sheet_34 kc_i_3 ?_
          obtain ⟨a11, S12, e10, h⟩ := bnd2_s h
          refine W_callvi C cf_X11_fail (c_X11_fail e10) q_ML_X11_82 (ws_X11 sk_0) rfl dX11_sheet_35 (by decide) rfl rfl (Nat.le_of_ble_eq_true rfl) ?_
          exact V_iret C X dX11_sheet_38 ⟨ri_1 h, ri_2 h⟩
    · replace h := ifp c7 h
      refine V_sub C [1] rfl ?_
      exact v_X11_sheet_19 C X h
theorem c_X11_sheet {ε : eT} {N : Nat} {S : St} {v1 : Int32} {v2 : Int32} {v3 : Int32} {res : (Int32 × St)} (h : f_X11_sheet N S v1 v2 v3 = some res) : CI ε yX11_sheet cX11_sheet 5 (some .int) 4 [.ref (eA ε 0), .int v1, .int v2, .int v3] S (some (.int res.1)) res.2 := CI_of (by decide) (Nat.le_of_ble_eq_true rfl) rfl (fun κ C X => v_X11_sheet_e C X h)
def f_X11_taken_26 (N : Nat) (S : St) : Option (Int64 × St) :=
 bnd2 (f_X11_fail S (1 : Int32)) (fun a2 S3 =>
 some ((a2).toInt64, S3))
set_option maxRecDepth 20000 in
theorem v_X11_taken_26 {ε : eT} {κ : kT} {N : Nat} (C : Act ε κ cX11_taken 6 RX11 4) {S : St} {res : (Int64 × St)} (X : RI ε κ (some .long) (some (.long res.1)) res.2) (h : f_X11_taken_26 N S = some res) : V ε κ 6 26 [(0, .ref (eA ε 0))] [] (wsOf ε S) 0 0 := by
  unfold f_X11_taken_26 at h
  refine V_aload_n C 0 dX11_taken_26 rfl rfl ?_
  refine V_iconst C dX11_taken_27 kc_i_1 ?_
  obtain ⟨a2, S3, e1, h⟩ := bnd2_s h
  refine W_callvi C cf_X11_fail (c_X11_fail e1) q_ML_X11_82 (ws_X11 sk_0) rfl dX11_taken_28 (by decide) rfl rfl (Nat.le_of_ble_eq_true rfl) ?_
  refine V_i2l C dX11_taken_31 ?_
  exact V_lret C X dX11_taken_32 ⟨rl_1 h, ri_2 h⟩
def f_X11_taken (N : Nat) (S : St) (v1 : Int32) (v2 : Int32) (v3 : Int32) : Option (Int64 × St) :=
 bnd (f_X11_isThing S v1) (fun a2 =>
 (if a2 = 0 then
 f_X11_taken_26 N S
 else
 bnd (f_X11_within S v2 (9999 : Int32)) (fun a5 =>
 (if a5 = 0 then
 f_X11_taken_26 N S
 else
 bnd (f_X11_within S v3 (1 : Int32)) (fun a8 =>
 (if a8 = 0 then
 f_X11_taken_26 N S
 else
 bnd (f_X2_look N S 8 v1) (fun S11 =>
 bnd (f_X2_leftAt N S11 v2) (fun a13 =>
 bnd (f_X11_lowestTerm N S11 ((S11.2 1) - a13) (S11.2 1) v3) (fun a15 =>
 some (a15, S11))))))))))
set_option maxRecDepth 20000 in
theorem v_X11_taken_e {ε : eT} {κ : kT} {N : Nat} (C : Act ε κ cX11_taken 6 RX11 4) {S : St} {res : (Int64 × St)} (X : RI ε κ (some .long) (some (.long res.1)) res.2) {v1 : Int32} {v2 : Int32} {v3 : Int32} (h : f_X11_taken N S v1 v2 v3 = some res) : V ε κ 6 0 [(0, .ref (eA ε 0)), (1, .int v1), (2, .int v2), (3, .int v3)] [] (wsOf ε S) 0 0 := by
  unfold f_X11_taken at h
  refine V_aload_n C 0 dX11_taken_0 rfl rfl ?_
  refine V_iload_n C 1 dX11_taken_1 rfl rfl ?_
  obtain ⟨a2, e1, h⟩ := bnd_s h
  refine W_callvi C cf_X11_isThing (c_X11_isThing e1) q_ML_X11_147 (ws_X11 sk_0) rfl dX11_taken_2 (by decide) rfl rfl (Nat.le_of_ble_eq_true rfl) ?_
  refine V_if_eq C dX11_taken_5 rfl (fun c3 => ?_) (fun c3 => ?_)
  · replace h := ifp c3 h
    refine V_sub C [0] rfl ?_
    exact v_X11_taken_26 C X h
  · replace h := ifn c3 h
    refine V_iload_n C 2 dX11_taken_8 rfl rfl ?_
    refine V_sipush C dX11_taken_9 kc_s_9999 ?_
    obtain ⟨a5, e4, h⟩ := bnd_s h
    refine W_callsi C cf_X11_within (c_X11_within e4) q_ML_X11_75 dX11_taken_12 (by decide) rfl rfl (Nat.le_of_ble_eq_true rfl) ?_
    refine V_if_eq C dX11_taken_15 rfl (fun c6 => ?_) (fun c6 => ?_)
    · replace h := ifp c6 h
      refine V_sub C [0] rfl ?_
      exact v_X11_taken_26 C X h
    · replace h := ifn c6 h
      refine V_iload_n C 3 dX11_taken_18 rfl rfl ?_
      refine V_iconst C dX11_taken_19 kc_i_1 ?_
      obtain ⟨a8, e7, h⟩ := bnd_s h
      refine W_callsi C cf_X11_within (c_X11_within e7) q_ML_X11_75 dX11_taken_20 (by decide) rfl rfl (Nat.le_of_ble_eq_true rfl) ?_
      refine V_if_ne C dX11_taken_23 rfl (fun c9 => ?_) (fun c9 => ?_)
      · replace h := ifn c9 h
        refine V_aload_n C 0 dX11_taken_33 rfl rfl ?_
        refine G_X11_market (q := 0) C sk_0 q_FL_X11_10 dX11_taken_34 ?_
        refine V_aload_n C 0 dX11_taken_37 rfl rfl ?_
        refine G_X11_now (q := 0) C sk_0 q_FL_X11_21 dX11_taken_38 ?_
        refine V_iload_n C 1 dX11_taken_41 rfl rfl ?_
        obtain ⟨S11, e10, h⟩ := bnd_s h
        refine W_callvn C cf_X2_look (c_X2_look sk_8 e10) q_ML_X11_247 (ws_X2 sk_1) rfl dX11_taken_42 (by decide) rfl rfl (Nat.le_of_ble_eq_true rfl) ?_
        refine V_aload_n C 0 dX11_taken_45 rfl rfl ?_
        refine G_X11_market (q := 0) C sk_0 q_FL_X11_10 dX11_taken_46 ?_
        refine G_X2_whole (q := 1) C sk_1 q_FL_X11_250 dX11_taken_49 ?_
        refine V_aload_n C 0 dX11_taken_52 rfl rfl ?_
        refine G_X11_market (q := 0) C sk_0 q_FL_X11_10 dX11_taken_53 ?_
        refine V_iload_n C 2 dX11_taken_56 rfl rfl ?_
        obtain ⟨a13, e12, h⟩ := bnd_s h
        refine W_callvl C cf_X2_leftAt (c_X2_leftAt e12) q_ML_X11_254 (ws_X2 sk_1) rfl dX11_taken_57 (by decide) rfl rfl (Nat.le_of_ble_eq_true rfl) ?_
        refine V_lsub C dX11_taken_60 ?_
        refine V_lstore (lv' := [(4, .long ((S11.2 1) - a13)), (0, .ref (eA ε 0)), (1, .int v1), (2, .int v2), (3, .int v3)]) C dX11_taken_61 (by decide) rfl ?_
        refine V_lload C 0 dX11_taken_63 rfl ?_
        refine V_aload_n C 1 dX11_taken_65 rfl rfl ?_
        refine G_X11_market (q := 0) C sk_0 q_FL_X11_10 dX11_taken_66 ?_
        refine G_X2_whole (q := 1) C sk_1 q_FL_X11_250 dX11_taken_69 ?_
        refine V_iload_n C 4 dX11_taken_72 rfl rfl ?_
        obtain ⟨a15, e14, h⟩ := bnd_s h
        refine W_callsl C cf_X11_lowestTerm (c_X11_lowestTerm e14) q_ML_X11_258 dX11_taken_73 (by decide) rfl rfl (Nat.le_of_ble_eq_true rfl) ?_
        exact V_lret C X dX11_taken_76 ⟨rl_1 h, ri_2 h⟩
      · replace h := ifp c9 h
        refine V_sub C [0] rfl ?_
        exact v_X11_taken_26 C X h
theorem c_X11_taken {ε : eT} {N : Nat} {S : St} {v1 : Int32} {v2 : Int32} {v3 : Int32} {res : (Int64 × St)} (h : f_X11_taken N S v1 v2 v3 = some res) : CI ε yX11_taken cX11_taken 6 (some .long) 4 [.ref (eA ε 0), .int v1, .int v2, .int v3] S (some (.long res.1)) res.2 := CI_of (by decide) (Nat.le_of_ble_eq_true rfl) rfl (fun κ C X => v_X11_taken_e C X h)
def f_X11_tell (S : St) (v1 : Int32) : Option (Int32 × St) :=
 bnd (f_X5_size S 53) (fun a2 =>
 (if a2 < (24 : Int32) then
 bnd (f_X5_add S 53 v1) (fun S5 =>
 bnd (f_X5_size S5 53) (fun a7 =>
 some (a7, S5)))
 else
 bnd2 (f_X11_fail S (4 : Int32)) (fun a9 S10 =>
 some (a9, S10))))
set_option maxRecDepth 20000 in
theorem v_X11_tell_e {ε : eT} {κ : kT} (C : Act ε κ cX11_tell 2 RX11 3) {S : St} {res : (Int32 × St)} (X : RI ε κ (some .int) (some (.int res.1)) res.2) {v1 : Int32} (h : f_X11_tell S v1 = some res) : V ε κ 2 0 [(0, .ref (eA ε 0)), (1, .int v1)] [] (wsOf ε S) 0 0 := by
  unfold f_X11_tell at h
  refine V_aload_n C 0 dX11_tell_0 rfl rfl ?_
  refine G_X11_now (q := 0) C sk_0 q_FL_X11_21 dX11_tell_1 ?_
  refine G_X9_waiting (q := 8) C sk_8 q_FL_X11_336 dX11_tell_4 ?_
  obtain ⟨a2, e1, h⟩ := bnd_s h
  refine W_callvi C cf_X5_size (c_X5_size sk_53 e1) q_ML_X11_176 (ws_X5 sk_53) rfl dX11_tell_7 (by decide) rfl rfl (Nat.le_of_ble_eq_true rfl) ?_
  refine V_bipush C dX11_tell_10 kc_b_24 ?_
  refine V_icmp_lt C dX11_tell_12 rfl (fun c3 => ?_) (fun c3 => ?_)
  · replace h := ifp c3 h
    refine V_aload_n C 0 dX11_tell_21 rfl rfl ?_
    refine G_X11_now (q := 0) C sk_0 q_FL_X11_21 dX11_tell_22 ?_
    refine G_X9_waiting (q := 8) C sk_8 q_FL_X11_336 dX11_tell_25 ?_
    refine V_iload_n C 1 dX11_tell_28 rfl rfl ?_
    obtain ⟨S5, e4, h⟩ := bnd_s h
    refine W_callvn C cf_X5_add (c_X5_add sk_53 e4) q_ML_X11_195 (ws_X5 sk_53) rfl dX11_tell_29 (by decide) rfl rfl (Nat.le_of_ble_eq_true rfl) ?_
    refine V_aload_n C 0 dX11_tell_32 rfl rfl ?_
    refine G_X11_now (q := 0) C sk_0 q_FL_X11_21 dX11_tell_33 ?_
    refine G_X9_waiting (q := 8) C sk_8 q_FL_X11_336 dX11_tell_36 ?_
    obtain ⟨a7, e6, h⟩ := bnd_s h
    refine W_callvi C cf_X5_size (c_X5_size sk_53 e6) q_ML_X11_176 (ws_X5 sk_53) rfl dX11_tell_39 (by decide) rfl rfl (Nat.le_of_ble_eq_true rfl) ?_
    exact V_iret C X dX11_tell_42 ⟨ri_1 h, ri_2 h⟩
  · replace h := ifn c3 h
    refine V_aload_n C 0 dX11_tell_15 rfl rfl ?_
    refine V_iconst C dX11_tell_16 kc_i_4 ?_
    obtain ⟨a9, S10, e8, h⟩ := bnd2_s h
    refine W_callvi C cf_X11_fail (c_X11_fail e8) q_ML_X11_82 (ws_X11 sk_0) rfl dX11_tell_17 (by decide) rfl rfl (Nat.le_of_ble_eq_true rfl) ?_
    exact V_iret C X dX11_tell_20 ⟨ri_1 h, ri_2 h⟩
theorem c_X11_tell {ε : eT} {S : St} {v1 : Int32} {res : (Int32 × St)} (h : f_X11_tell S v1 = some res) : CI ε yX11_tell cX11_tell 2 (some .int) 3 [.ref (eA ε 0), .int v1] S (some (.int res.1)) res.2 := CI_of (by decide) (Nat.le_of_ble_eq_true rfl) rfl (fun κ C X => v_X11_tell_e C X h)
def f_X11_textOf (S : St) (v1 : Int32) : Option Nat :=
 (if v1 = 0 then
 some 37
 else
 some 44)
set_option maxRecDepth 20000 in
theorem v_X11_textOf_e {ε : eT} {κ : kT} (C : Act ε κ cX11_textOf 2 RX11 1) {S : St} {res : Nat} (X : RI ε κ (some (.object "NamedPrices$Text")) (some (.ref (eA ε res))) S) {v1 : Int32} (h : f_X11_textOf S v1 = some res) : V ε κ 2 0 [(0, .ref (eA ε 0)), (1, .int v1)] [] (wsOf ε S) 0 0 := by
  unfold f_X11_textOf at h
  refine V_iload_n C 1 dX11_textOf_0 rfl rfl ?_
  refine V_if_ne C dX11_textOf_1 rfl (fun c1 => ?_) (fun c1 => ?_)
  · replace h := ifn c1 h
    refine V_aload_n C 0 dX11_textOf_14 rfl rfl ?_
    refine G_X11_now (q := 0) C sk_0 q_FL_X11_21 dX11_textOf_15 ?_
    refine G_X9_mending (q := 8) C sk_8 q_FL_X11_347 dX11_textOf_18 ?_
    exact V_aret C (Or.inr ⟨_, rfl⟩) X dX11_textOf_21 ⟨rA_s h, rfl⟩
  · replace h := ifp c1 h
    refine V_aload_n C 0 dX11_textOf_4 rfl rfl ?_
    refine G_X11_now (q := 0) C sk_0 q_FL_X11_21 dX11_textOf_5 ?_
    refine G_X9_naming (q := 8) C sk_8 q_FL_X11_343 dX11_textOf_8 ?_
    refine V_goto C dX11_textOf_11 rfl ?_
    exact V_aret C (Or.inr ⟨_, rfl⟩) X dX11_textOf_21 ⟨rA_s h, rfl⟩
theorem c_X11_textOf {ε : eT} {S : St} {v1 : Int32} {res : Nat} (h : f_X11_textOf S v1 = some res) : CI ε yX11_textOf cX11_textOf 2 (some (.object "NamedPrices$Text")) 1 [.ref (eA ε 0), .int v1] S (some (.ref (eA ε res))) S := CI_of (by decide) (Nat.le_of_ble_eq_true rfl) rfl (fun κ C X => v_X11_textOf_e C X h)
def f_X11_text_36 (N : Nat) (S : St) (v1 : Int32) (s0 : Nat) : Option (Int32 × St) :=
 bnd2 (f_X4_read N S 51 s0) (fun a2 S3 =>
 bnd (f_X5_reset N S3 51 (0 : Int32)) (fun S5 =>
 (if a2 < 0 then
 bnd (f_X11_textOf S5 v1) (fun a8 => (if sh a8 = 7 then
 bnd (f_X7_hold S5 a8 150) (fun S12 =>
 some ((1 : Int32), S12))
 else none))
 else
 some (((-10 : Int32) - a2), S5))))
set_option maxRecDepth 20000 in
theorem v_X11_text_36 {ε : eT} {κ : kT} {N : Nat} (C : Act ε κ cX11_text 3 RX11 44) {S : St} {res : (Int32 × St)} (X : RI ε κ (some .int) (some (.int res.1)) res.2) {v1 : Int32} {s0 : Nat} (h : f_X11_text_36 N S v1 s0 = some res) : V ε κ 3 36 [(0, .ref (eA ε 0)), (1, .int v1)] [.ref (eZ ε s0), .ref (eA ε 51), .ref (eA ε 149)] (wsOf ε S) 0 0 := by
  unfold f_X11_text_36 at h
  obtain ⟨a2, S3, e1, h⟩ := bnd2_s h
  refine W_callvi C cf_X4_read (c_X4_read sk_51 e1) q_ML_X11_202 (ws_X4 sk_149) rfl dX11_text_36 (by decide) rfl rfl (Nat.le_of_ble_eq_true rfl) ?_
  refine V_istore_n (lv' := [(2, .int a2), (0, .ref (eA ε 0)), (1, .int v1)]) C dX11_text_39 rfl (by decide) rfl ?_
  refine V_aload_n C 1 dX11_text_40 rfl rfl ?_
  refine G_X11_now (q := 0) C sk_0 q_FL_X11_21 dX11_text_41 ?_
  refine G_X9_tape (q := 8) C sk_8 q_FL_X11_192 dX11_text_44 ?_
  refine V_iconst C dX11_text_47 kc_i_0 ?_
  obtain ⟨S5, e4, h⟩ := bnd_s h
  refine W_callvn C cf_X5_reset (c_X5_reset sk_51 e4) q_ML_X11_61 (ws_X5 sk_51) rfl dX11_text_48 (by decide) rfl rfl (Nat.le_of_ble_eq_true rfl) ?_
  refine V_iload_n C 0 dX11_text_51 rfl rfl ?_
  refine V_if_lt C dX11_text_52 rfl (fun c6 => ?_) (fun c6 => ?_)
  · replace h := ifp c6 h
    refine V_aload_n C 1 dX11_text_60 rfl rfl ?_
    refine V_iload_n C 2 dX11_text_61 rfl rfl ?_
    obtain ⟨a8, e7, h⟩ := bnd_s h
    obtain ⟨hq9, h⟩ := gdt h
    refine W_callva C cf_X11_textOf (c_X11_textOf e7) q_ML_X11_206 (ws_X11 sk_0) rfl dX11_text_62 (by decide) rfl rfl (Nat.le_of_ble_eq_true rfl) ?_
    refine V_aload_n C 1 dX11_text_65 rfl rfl ?_
    refine G_X11_reader (q := 0) C sk_0 q_FL_X11_34 dX11_text_66 ?_
    refine G_X4_code (q := 149) C sk_149 q_FL_X11_210 dX11_text_69 ?_
    obtain ⟨S12, e11, h⟩ := bnd_s h
    refine W_callvn C cf_X7_hold (c_X7_hold hq9 sk_150 e11) q_ML_X11_213 (ws_X7 hq9) rfl dX11_text_72 (by decide) rfl rfl (Nat.le_of_ble_eq_true rfl) ?_
    refine V_iconst C dX11_text_75 kc_i_1 ?_
    exact V_iret C X dX11_text_76 ⟨ri_1 h, ri_2 h⟩
  · replace h := ifn c6 h
    refine V_bipush C dX11_text_55 kc_b_m10 ?_
    refine V_iload_n C 0 dX11_text_57 rfl rfl ?_
    refine V_isub C dX11_text_58 ?_
    exact V_iret C X dX11_text_59 ⟨ri_1 h, ri_2 h⟩
def f_X11_text (N : Nat) (S : St) (v1 : Int32) : Option (Int32 × St) :=
 bnd (f_X11_within S v1 (1 : Int32)) (fun a2 =>
 (if a2 = 0 then
 bnd2 (f_X11_fail S (1 : Int32)) (fun a6 S7 =>
 some (a6, S7))
 else
 (if v1 = 0 then
 f_X11_text_36 N S v1 2
 else
 f_X11_text_36 N S v1 3)))
set_option maxRecDepth 20000 in
theorem v_X11_text_e {ε : eT} {κ : kT} {N : Nat} (C : Act ε κ cX11_text 3 RX11 44) {S : St} {res : (Int32 × St)} (X : RI ε κ (some .int) (some (.int res.1)) res.2) {v1 : Int32} (h : f_X11_text N S v1 = some res) : V ε κ 3 0 [(0, .ref (eA ε 0)), (1, .int v1)] [] (wsOf ε S) 0 0 := by
  unfold f_X11_text at h
  refine V_iload_n C 1 dX11_text_0 rfl rfl ?_
  refine V_iconst C dX11_text_1 kc_i_1 ?_
  obtain ⟨a2, e1, h⟩ := bnd_s h
  refine W_callsi C cf_X11_within (c_X11_within e1) q_ML_X11_75 dX11_text_2 (by decide) rfl rfl (Nat.le_of_ble_eq_true rfl) ?_
  refine V_if_ne C dX11_text_5 rfl (fun c3 => ?_) (fun c3 => ?_)
  · replace h := ifn c3 h
    refine V_aload_n C 0 dX11_text_14 rfl rfl ?_
    refine G_X11_reader (q := 0) C sk_0 q_FL_X11_34 dX11_text_15 ?_
    refine V_aload_n C 0 dX11_text_18 rfl rfl ?_
    refine G_X11_now (q := 0) C sk_0 q_FL_X11_21 dX11_text_19 ?_
    refine G_X9_tape (q := 8) C sk_8 q_FL_X11_192 dX11_text_22 ?_
    refine V_iload_n C 1 dX11_text_25 rfl rfl ?_
    refine V_if_ne C dX11_text_26 rfl (fun c4 => ?_) (fun c4 => ?_)
    · replace h := ifn c4 h
      refine V_ldcS C C.2.2.2.2.1.2.2.2.2.2.2.2.1 dX11_text_34 ?_
      exact v_X11_text_36 C X h
    · replace h := ifp c4 h
      refine V_ldcS C C.2.2.2.2.1.2.2.2.2.2.2.1 dX11_text_29 ?_
      refine V_goto C dX11_text_31 rfl ?_
      exact v_X11_text_36 C X h
  · replace h := ifp c3 h
    refine V_aload_n C 0 dX11_text_8 rfl rfl ?_
    refine V_iconst C dX11_text_9 kc_i_1 ?_
    obtain ⟨a6, S7, e5, h⟩ := bnd2_s h
    refine W_callvi C cf_X11_fail (c_X11_fail e5) q_ML_X11_82 (ws_X11 sk_0) rfl dX11_text_10 (by decide) rfl rfl (Nat.le_of_ble_eq_true rfl) ?_
    exact V_iret C X dX11_text_13 ⟨ri_1 h, ri_2 h⟩
theorem c_X11_text {ε : eT} {N : Nat} {S : St} {v1 : Int32} {res : (Int32 × St)} (h : f_X11_text N S v1 = some res) : CI ε yX11_text cX11_text 3 (some .int) 44 [.ref (eA ε 0), .int v1] S (some (.int res.1)) res.2 := CI_of (by decide) (Nat.le_of_ble_eq_true rfl) rfl (fun κ C X => v_X11_text_e C X h)
def f_X11_then_18 (N : Nat) (S : St) : Option (Int32 × St) :=
 bnd2 (f_X11_fail S (1 : Int32)) (fun a2 S3 =>
 some (a2, S3))
set_option maxRecDepth 20000 in
theorem v_X11_then_18 {ε : eT} {κ : kT} {N : Nat} (C : Act ε κ cX11_then 3 RX11 8) {S : St} {res : (Int32 × St)} (X : RI ε κ (some .int) (some (.int res.1)) res.2) (h : f_X11_then_18 N S = some res) : V ε κ 3 18 [(0, .ref (eA ε 0))] [] (wsOf ε S) 0 0 := by
  unfold f_X11_then_18 at h
  refine V_aload_n C 0 dX11_then_18 rfl rfl ?_
  refine V_iconst C dX11_then_19 kc_i_1 ?_
  obtain ⟨a2, S3, e1, h⟩ := bnd2_s h
  refine W_callvi C cf_X11_fail (c_X11_fail e1) q_ML_X11_82 (ws_X11 sk_0) rfl dX11_then_20 (by decide) rfl rfl (Nat.le_of_ble_eq_true rfl) ?_
  exact V_iret C X dX11_then_23 ⟨ri_1 h, ri_2 h⟩
def f_X11_then (N : Nat) (S : St) (v1 : Int32) (v2 : Int32) : Option (Int32 × St) :=
 bnd (f_X11_within S v1 (40 : Int32)) (fun a2 =>
 (if a2 = 0 then
 f_X11_then_18 N S
 else
 bnd (f_X11_within S v2 (6 : Int32)) (fun a5 =>
 (if a5 = 0 then
 f_X11_then_18 N S
 else
 bnd (f_X9_copy S 55 8) (fun S8 =>
 bnd (f_X0_goBy N S8 55 v1) (fun S10 =>
 bnd (f_X9_figure N S10 55 v2) (fun a12 =>
 some (a12, S10))))))))
set_option maxRecDepth 20000 in
theorem v_X11_then_e {ε : eT} {κ : kT} {N : Nat} (C : Act ε κ cX11_then 3 RX11 8) {S : St} {res : (Int32 × St)} (X : RI ε κ (some .int) (some (.int res.1)) res.2) {v1 : Int32} {v2 : Int32} (h : f_X11_then N S v1 v2 = some res) : V ε κ 3 0 [(0, .ref (eA ε 0)), (1, .int v1), (2, .int v2)] [] (wsOf ε S) 0 0 := by
  unfold f_X11_then at h
  refine V_iload_n C 1 dX11_then_0 rfl rfl ?_
  refine V_bipush C dX11_then_1 kc_b_40 ?_
  obtain ⟨a2, e1, h⟩ := bnd_s h
  refine W_callsi C cf_X11_within (c_X11_within e1) q_ML_X11_75 dX11_then_3 (by decide) rfl rfl (Nat.le_of_ble_eq_true rfl) ?_
  refine V_if_eq C dX11_then_6 rfl (fun c3 => ?_) (fun c3 => ?_)
  · replace h := ifp c3 h
    refine V_sub C [0] rfl ?_
    exact v_X11_then_18 C X h
  · replace h := ifn c3 h
    refine V_iload_n C 2 dX11_then_9 rfl rfl ?_
    refine V_bipush C dX11_then_10 kc_b_6 ?_
    obtain ⟨a5, e4, h⟩ := bnd_s h
    refine W_callsi C cf_X11_within (c_X11_within e4) q_ML_X11_75 dX11_then_12 (by decide) rfl rfl (Nat.le_of_ble_eq_true rfl) ?_
    refine V_if_ne C dX11_then_15 rfl (fun c6 => ?_) (fun c6 => ?_)
    · replace h := ifn c6 h
      refine V_aload_n C 0 dX11_then_24 rfl rfl ?_
      refine G_X11_ahead (q := 0) C sk_0 q_FL_X11_25 dX11_then_25 ?_
      refine V_aload_n C 0 dX11_then_28 rfl rfl ?_
      refine G_X11_now (q := 0) C sk_0 q_FL_X11_21 dX11_then_29 ?_
      obtain ⟨S8, e7, h⟩ := bnd_s h
      refine W_callvn C cf_X9_copy (c_X9_copy sk_55 sk_8 e7) q_ML_X11_280 (ws_X9 sk_55) rfl dX11_then_32 (by decide) rfl rfl (Nat.le_of_ble_eq_true rfl) ?_
      refine V_aload_n C 0 dX11_then_35 rfl rfl ?_
      refine G_X11_ahead (q := 0) C sk_0 q_FL_X11_25 dX11_then_36 ?_
      refine V_iload_n C 1 dX11_then_39 rfl rfl ?_
      obtain ⟨S10, e9, h⟩ := bnd_s h
      refine W_callsn C cf_X0_goBy (c_X0_goBy sk_55 e9) q_ML_X11_235 dX11_then_40 (by decide) rfl rfl (Nat.le_of_ble_eq_true rfl) ?_
      refine V_aload_n C 0 dX11_then_43 rfl rfl ?_
      refine G_X11_ahead (q := 0) C sk_0 q_FL_X11_25 dX11_then_44 ?_
      refine V_iload_n C 2 dX11_then_47 rfl rfl ?_
      obtain ⟨a12, e11, h⟩ := bnd_s h
      refine W_callvi C cf_X9_figure (c_X9_figure sk_55 e11) q_ML_X11_274 (ws_X9 sk_55) rfl dX11_then_48 (by decide) rfl rfl (Nat.le_of_ble_eq_true rfl) ?_
      exact V_iret C X dX11_then_51 ⟨ri_1 h, ri_2 h⟩
    · replace h := ifp c6 h
      refine V_sub C [0] rfl ?_
      exact v_X11_then_18 C X h
theorem c_X11_then {ε : eT} {N : Nat} {S : St} {v1 : Int32} {v2 : Int32} {res : (Int32 × St)} (h : f_X11_then N S v1 v2 = some res) : CI ε yX11_then cX11_then 3 (some .int) 8 [.ref (eA ε 0), .int v1, .int v2] S (some (.int res.1)) res.2 := CI_of (by decide) (Nat.le_of_ble_eq_true rfl) rfl (fun κ C X => v_X11_then_e C X h)
def f_X11_thing_18 (S : St) : Option (Int32 × St) :=
 bnd2 (f_X11_fail S (1 : Int32)) (fun a2 S3 =>
 some (a2, S3))
set_option maxRecDepth 20000 in
theorem v_X11_thing_18 {ε : eT} {κ : kT} (C : Act ε κ cX11_thing 3 RX11 4) {S : St} {res : (Int32 × St)} (X : RI ε κ (some .int) (some (.int res.1)) res.2) (h : f_X11_thing_18 S = some res) : V ε κ 3 18 [(0, .ref (eA ε 0))] [] (wsOf ε S) 0 0 := by
  unfold f_X11_thing_18 at h
  refine V_aload_n C 0 dX11_thing_18 rfl rfl ?_
  refine V_iconst C dX11_thing_19 kc_i_1 ?_
  obtain ⟨a2, S3, e1, h⟩ := bnd2_s h
  refine W_callvi C cf_X11_fail (c_X11_fail e1) q_ML_X11_82 (ws_X11 sk_0) rfl dX11_thing_20 (by decide) rfl rfl (Nat.le_of_ble_eq_true rfl) ?_
  exact V_iret C X dX11_thing_23 ⟨ri_1 h, ri_2 h⟩
def f_X11_thing (S : St) (v1 : Int32) (v2 : Int32) : Option (Int32 × St) :=
 bnd (f_X11_isPerson S v1) (fun a2 =>
 (if a2 = 0 then
 f_X11_thing_18 S
 else
 bnd (f_X11_within S v2 (9999 : Int32)) (fun a5 =>
 (if a5 = 0 then
 f_X11_thing_18 S
 else
 bnd (f_X8_size S 18) (fun a8 =>
 (if a8 < (12 : Int32) then
 bnd2 (f_X8_come S 18 v1 v2) (fun a11 S12 =>
 some (a11, S12))
 else
 bnd2 (f_X11_fail S (4 : Int32)) (fun a14 S15 =>
 some (a14, S15))))))))
set_option maxRecDepth 20000 in
theorem v_X11_thing_e {ε : eT} {κ : kT} (C : Act ε κ cX11_thing 3 RX11 4) {S : St} {res : (Int32 × St)} (X : RI ε κ (some .int) (some (.int res.1)) res.2) {v1 : Int32} {v2 : Int32} (h : f_X11_thing S v1 v2 = some res) : V ε κ 3 0 [(0, .ref (eA ε 0)), (1, .int v1), (2, .int v2)] [] (wsOf ε S) 0 0 := by
  unfold f_X11_thing at h
  refine V_aload_n C 0 dX11_thing_0 rfl rfl ?_
  refine V_iload_n C 1 dX11_thing_1 rfl rfl ?_
  obtain ⟨a2, e1, h⟩ := bnd_s h
  refine W_callvi C cf_X11_isPerson (c_X11_isPerson e1) q_ML_X11_100 (ws_X11 sk_0) rfl dX11_thing_2 (by decide) rfl rfl (Nat.le_of_ble_eq_true rfl) ?_
  refine V_if_eq C dX11_thing_5 rfl (fun c3 => ?_) (fun c3 => ?_)
  · replace h := ifp c3 h
    refine V_sub C [0] rfl ?_
    exact v_X11_thing_18 C X h
  · replace h := ifn c3 h
    refine V_iload_n C 2 dX11_thing_8 rfl rfl ?_
    refine V_sipush C dX11_thing_9 kc_s_9999 ?_
    obtain ⟨a5, e4, h⟩ := bnd_s h
    refine W_callsi C cf_X11_within (c_X11_within e4) q_ML_X11_75 dX11_thing_12 (by decide) rfl rfl (Nat.le_of_ble_eq_true rfl) ?_
    refine V_if_ne C dX11_thing_15 rfl (fun c6 => ?_) (fun c6 => ?_)
    · replace h := ifn c6 h
      refine V_aload_n C 0 dX11_thing_24 rfl rfl ?_
      refine G_X11_now (q := 0) C sk_0 q_FL_X11_21 dX11_thing_25 ?_
      refine G_X9_things (q := 8) C sk_8 q_FL_X11_118 dX11_thing_28 ?_
      obtain ⟨a8, e7, h⟩ := bnd_s h
      refine W_callvi C cf_X8_size (c_X8_size sk_18 e7) q_ML_X11_143 (ws_X8 sk_18) rfl dX11_thing_31 (by decide) rfl rfl (Nat.le_of_ble_eq_true rfl) ?_
      refine V_bipush C dX11_thing_34 kc_b_12 ?_
      refine V_icmp_lt C dX11_thing_36 rfl (fun c9 => ?_) (fun c9 => ?_)
      · replace h := ifp c9 h
        refine V_aload_n C 0 dX11_thing_45 rfl rfl ?_
        refine G_X11_now (q := 0) C sk_0 q_FL_X11_21 dX11_thing_46 ?_
        refine G_X9_things (q := 8) C sk_8 q_FL_X11_118 dX11_thing_49 ?_
        refine V_iload_n C 1 dX11_thing_52 rfl rfl ?_
        refine V_iload_n C 2 dX11_thing_53 rfl rfl ?_
        obtain ⟨a11, S12, e10, h⟩ := bnd2_s h
        refine W_callvi C cf_X8_come (c_X8_come sk_18 e10) q_ML_X11_144 (ws_X8 sk_18) rfl dX11_thing_54 (by decide) rfl rfl (Nat.le_of_ble_eq_true rfl) ?_
        exact V_iret C X dX11_thing_57 ⟨ri_1 h, ri_2 h⟩
      · replace h := ifn c9 h
        refine V_aload_n C 0 dX11_thing_39 rfl rfl ?_
        refine V_iconst C dX11_thing_40 kc_i_4 ?_
        obtain ⟨a14, S15, e13, h⟩ := bnd2_s h
        refine W_callvi C cf_X11_fail (c_X11_fail e13) q_ML_X11_82 (ws_X11 sk_0) rfl dX11_thing_41 (by decide) rfl rfl (Nat.le_of_ble_eq_true rfl) ?_
        exact V_iret C X dX11_thing_44 ⟨ri_1 h, ri_2 h⟩
    · replace h := ifp c6 h
      refine V_sub C [0] rfl ?_
      exact v_X11_thing_18 C X h
theorem c_X11_thing {ε : eT} {S : St} {v1 : Int32} {v2 : Int32} {res : (Int32 × St)} (h : f_X11_thing S v1 v2 = some res) : CI ε yX11_thing cX11_thing 3 (some .int) 4 [.ref (eA ε 0), .int v1, .int v2] S (some (.int res.1)) res.2 := CI_of (by decide) (Nat.le_of_ble_eq_true rfl) rfl (fun κ C X => v_X11_thing_e C X h)
def f_X11_thingIs_16 (N : Nat) (S : St) : Option (Int32 × St) :=
 bnd2 (f_X11_fail S (1 : Int32)) (fun a2 S3 =>
 some (a2, S3))
set_option maxRecDepth 20000 in
theorem v_X11_thingIs_16 {ε : eT} {κ : kT} {N : Nat} (C : Act ε κ cX11_thingIs 3 RX11 4) {S : St} {res : (Int32 × St)} (X : RI ε κ (some .int) (some (.int res.1)) res.2) (h : f_X11_thingIs_16 N S = some res) : V ε κ 3 16 [(0, .ref (eA ε 0))] [] (wsOf ε S) 0 0 := by
  unfold f_X11_thingIs_16 at h
  refine V_aload_n C 0 dX11_thingIs_16 rfl rfl ?_
  refine V_iconst C dX11_thingIs_17 kc_i_1 ?_
  obtain ⟨a2, S3, e1, h⟩ := bnd2_s h
  refine W_callvi C cf_X11_fail (c_X11_fail e1) q_ML_X11_82 (ws_X11 sk_0) rfl dX11_thingIs_18 (by decide) rfl rfl (Nat.le_of_ble_eq_true rfl) ?_
  exact V_iret C X dX11_thingIs_21 ⟨ri_1 h, ri_2 h⟩
def f_X11_thingIs (N : Nat) (S : St) (v1 : Int32) (v2 : Int32) : Option (Int32 × St) :=
 bnd (f_X11_isThing S v1) (fun a2 =>
 (if a2 = 0 then
 f_X11_thingIs_16 N S
 else
 bnd (f_X11_within S v2 (5 : Int32)) (fun a5 =>
 (if a5 = 0 then
 f_X11_thingIs_16 N S
 else
 (if v2 = 0 then
 bnd (f_X5_at S 19 v1) (fun a13 =>
 some (a13, S))
 else
 (if v2 = 1 then
 bnd (f_X5_at S 21 v1) (fun a15 =>
 some (a15, S))
 else
 (if v2 = 2 then
 bnd (f_X5_at S 23 v1) (fun a17 =>
 some (a17, S))
 else
 (if v2 = 3 then
 bnd (f_X5_at S 25 v1) (fun a19 =>
 some (a19, S))
 else
 (if v2 = 4 then
 bnd (f_X5_at S 19 v1) (fun a21 =>
 bnd (f_X8_valueOf S 18 a21 v1) (fun a23 =>
 some (a23, S)))
 else
 bnd (f_X9_fondestOf N S 8 v1) (fun a25 =>
 some (a25, S)))))))))))
set_option maxRecDepth 20000 in
theorem v_X11_thingIs_e {ε : eT} {κ : kT} {N : Nat} (C : Act ε κ cX11_thingIs 3 RX11 4) {S : St} {res : (Int32 × St)} (X : RI ε κ (some .int) (some (.int res.1)) res.2) {v1 : Int32} {v2 : Int32} (h : f_X11_thingIs N S v1 v2 = some res) : V ε κ 3 0 [(0, .ref (eA ε 0)), (1, .int v1), (2, .int v2)] [] (wsOf ε S) 0 0 := by
  unfold f_X11_thingIs at h
  refine V_aload_n C 0 dX11_thingIs_0 rfl rfl ?_
  refine V_iload_n C 1 dX11_thingIs_1 rfl rfl ?_
  obtain ⟨a2, e1, h⟩ := bnd_s h
  refine W_callvi C cf_X11_isThing (c_X11_isThing e1) q_ML_X11_147 (ws_X11 sk_0) rfl dX11_thingIs_2 (by decide) rfl rfl (Nat.le_of_ble_eq_true rfl) ?_
  refine V_if_eq C dX11_thingIs_5 rfl (fun c3 => ?_) (fun c3 => ?_)
  · replace h := ifp c3 h
    refine V_sub C [0] rfl ?_
    exact v_X11_thingIs_16 C X h
  · replace h := ifn c3 h
    refine V_iload_n C 2 dX11_thingIs_8 rfl rfl ?_
    refine V_iconst C dX11_thingIs_9 kc_i_5 ?_
    obtain ⟨a5, e4, h⟩ := bnd_s h
    refine W_callsi C cf_X11_within (c_X11_within e4) q_ML_X11_75 dX11_thingIs_10 (by decide) rfl rfl (Nat.le_of_ble_eq_true rfl) ?_
    refine V_if_ne C dX11_thingIs_13 rfl (fun c6 => ?_) (fun c6 => ?_)
    · replace h := ifn c6 h
      refine V_iload_n C 2 dX11_thingIs_22 rfl rfl ?_
      by_cases c7 : v2 = 0
      · replace h := ifp c7 h
        refine V_table C rfl dX11_thingIs_23 (off := 33) (by rw [c7]; decide +kernel) (tgt := 56) rfl ?_
        refine V_aload_n C 0 dX11_thingIs_56 rfl rfl ?_
        refine G_X11_now (q := 0) C sk_0 q_FL_X11_21 dX11_thingIs_57 ?_
        refine G_X9_things (q := 8) C sk_8 q_FL_X11_118 dX11_thingIs_60 ?_
        refine G_X8_owners (q := 18) C sk_18 q_FL_X11_150 dX11_thingIs_63 ?_
        refine V_iload_n C 1 dX11_thingIs_66 rfl rfl ?_
        obtain ⟨a13, e12, h⟩ := bnd_s h
        refine W_callvi C cf_X5_at (c_X5_at sk_19 e12) q_ML_X11_106 (ws_X5 sk_19) rfl dX11_thingIs_67 (by decide) rfl rfl (Nat.le_of_ble_eq_true rfl) ?_
        exact V_iret C X dX11_thingIs_70 ⟨ri_1 h, ri_2 h⟩
      · replace h := ifn c7 h
        by_cases c8 : v2 = 1
        · replace h := ifp c8 h
          refine V_table C rfl dX11_thingIs_23 (off := 48) (by rw [c8]; decide +kernel) (tgt := 71) rfl ?_
          refine V_aload_n C 0 dX11_thingIs_71 rfl rfl ?_
          refine G_X11_now (q := 0) C sk_0 q_FL_X11_21 dX11_thingIs_72 ?_
          refine G_X9_things (q := 8) C sk_8 q_FL_X11_118 dX11_thingIs_75 ?_
          refine G_X8_prices (q := 18) C sk_18 q_FL_X11_153 dX11_thingIs_78 ?_
          refine V_iload_n C 1 dX11_thingIs_81 rfl rfl ?_
          obtain ⟨a15, e14, h⟩ := bnd_s h
          refine W_callvi C cf_X5_at (c_X5_at sk_21 e14) q_ML_X11_106 (ws_X5 sk_21) rfl dX11_thingIs_82 (by decide) rfl rfl (Nat.le_of_ble_eq_true rfl) ?_
          exact V_iret C X dX11_thingIs_85 ⟨ri_1 h, ri_2 h⟩
        · replace h := ifn c8 h
          by_cases c9 : v2 = 2
          · replace h := ifp c9 h
            refine V_table C rfl dX11_thingIs_23 (off := 63) (by rw [c9]; decide +kernel) (tgt := 86) rfl ?_
            refine V_aload_n C 0 dX11_thingIs_86 rfl rfl ?_
            refine G_X11_now (q := 0) C sk_0 q_FL_X11_21 dX11_thingIs_87 ?_
            refine G_X9_things (q := 8) C sk_8 q_FL_X11_118 dX11_thingIs_90 ?_
            refine G_X8_sounds (q := 18) C sk_18 q_FL_X11_156 dX11_thingIs_93 ?_
            refine V_iload_n C 1 dX11_thingIs_96 rfl rfl ?_
            obtain ⟨a17, e16, h⟩ := bnd_s h
            refine W_callvi C cf_X5_at (c_X5_at sk_23 e16) q_ML_X11_106 (ws_X5 sk_23) rfl dX11_thingIs_97 (by decide) rfl rfl (Nat.le_of_ble_eq_true rfl) ?_
            exact V_iret C X dX11_thingIs_100 ⟨ri_1 h, ri_2 h⟩
          · replace h := ifn c9 h
            by_cases c10 : v2 = 3
            · replace h := ifp c10 h
              refine V_table C rfl dX11_thingIs_23 (off := 78) (by rw [c10]; decide +kernel) (tgt := 101) rfl ?_
              refine V_aload_n C 0 dX11_thingIs_101 rfl rfl ?_
              refine G_X11_now (q := 0) C sk_0 q_FL_X11_21 dX11_thingIs_102 ?_
              refine G_X9_things (q := 8) C sk_8 q_FL_X11_118 dX11_thingIs_105 ?_
              refine G_X8_kept (q := 18) C sk_18 q_FL_X11_159 dX11_thingIs_108 ?_
              refine V_iload_n C 1 dX11_thingIs_111 rfl rfl ?_
              obtain ⟨a19, e18, h⟩ := bnd_s h
              refine W_callvi C cf_X5_at (c_X5_at sk_25 e18) q_ML_X11_106 (ws_X5 sk_25) rfl dX11_thingIs_112 (by decide) rfl rfl (Nat.le_of_ble_eq_true rfl) ?_
              exact V_iret C X dX11_thingIs_115 ⟨ri_1 h, ri_2 h⟩
            · replace h := ifn c10 h
              by_cases c11 : v2 = 4
              · replace h := ifp c11 h
                refine V_table C rfl dX11_thingIs_23 (off := 93) (by rw [c11]; decide +kernel) (tgt := 116) rfl ?_
                refine V_aload_n C 0 dX11_thingIs_116 rfl rfl ?_
                refine G_X11_now (q := 0) C sk_0 q_FL_X11_21 dX11_thingIs_117 ?_
                refine G_X9_things (q := 8) C sk_8 q_FL_X11_118 dX11_thingIs_120 ?_
                refine V_aload_n C 0 dX11_thingIs_123 rfl rfl ?_
                refine G_X11_now (q := 0) C sk_0 q_FL_X11_21 dX11_thingIs_124 ?_
                refine G_X9_things (q := 8) C sk_8 q_FL_X11_118 dX11_thingIs_127 ?_
                refine G_X8_owners (q := 18) C sk_18 q_FL_X11_150 dX11_thingIs_130 ?_
                refine V_iload_n C 1 dX11_thingIs_133 rfl rfl ?_
                obtain ⟨a21, e20, h⟩ := bnd_s h
                refine W_callvi C cf_X5_at (c_X5_at sk_19 e20) q_ML_X11_106 (ws_X5 sk_19) rfl dX11_thingIs_134 (by decide) rfl rfl (Nat.le_of_ble_eq_true rfl) ?_
                refine V_iload_n C 1 dX11_thingIs_137 rfl rfl ?_
                obtain ⟨a23, e22, h⟩ := bnd_s h
                refine W_callvi C cf_X8_valueOf (c_X8_valueOf sk_18 e22) q_ML_X11_161 (ws_X8 sk_18) rfl dX11_thingIs_138 (by decide) rfl rfl (Nat.le_of_ble_eq_true rfl) ?_
                exact V_iret C X dX11_thingIs_141 ⟨ri_1 h, ri_2 h⟩
              · replace h := ifn c11 h
                refine V_table C rfl dX11_thingIs_23 (swt_d [(0 : Int32), (1 : Int32), (2 : Int32), (3 : Int32), (4 : Int32)] (List.forall_mem_cons.mpr ⟨c7, (List.forall_mem_cons.mpr ⟨c8, (List.forall_mem_cons.mpr ⟨c9, (List.forall_mem_cons.mpr ⟨c10, (List.forall_mem_cons.mpr ⟨c11, (fun _ h => absurd h List.not_mem_nil)⟩)⟩)⟩)⟩)⟩) rfl (by decide +kernel)) (tgt := 142) rfl ?_
                refine V_aload_n C 0 dX11_thingIs_142 rfl rfl ?_
                refine G_X11_now (q := 0) C sk_0 q_FL_X11_21 dX11_thingIs_143 ?_
                refine V_iload_n C 1 dX11_thingIs_146 rfl rfl ?_
                obtain ⟨a25, e24, h⟩ := bnd_s h
                refine W_callvi C cf_X9_fondestOf (c_X9_fondestOf sk_8 e24) q_ML_X11_164 (ws_X9 sk_8) rfl dX11_thingIs_147 (by decide) rfl rfl (Nat.le_of_ble_eq_true rfl) ?_
                exact V_iret C X dX11_thingIs_150 ⟨ri_1 h, ri_2 h⟩
    · replace h := ifp c6 h
      refine V_sub C [0] rfl ?_
      exact v_X11_thingIs_16 C X h
theorem c_X11_thingIs {ε : eT} {N : Nat} {S : St} {v1 : Int32} {v2 : Int32} {res : (Int32 × St)} (h : f_X11_thingIs N S v1 v2 = some res) : CI ε yX11_thingIs cX11_thingIs 3 (some .int) 4 [.ref (eA ε 0), .int v1, .int v2] S (some (.int res.1)) res.2 := CI_of (by decide) (Nat.le_of_ble_eq_true rfl) rfl (fun κ C X => v_X11_thingIs_e C X h)
def f_X11_told_11 (S : St) : Option (Int32 × St) :=
 bnd2 (f_X11_fail S (1 : Int32)) (fun a2 S3 =>
 some (a2, S3))
set_option maxRecDepth 20000 in
theorem v_X11_told_11 {ε : eT} {κ : kT} (C : Act ε κ cX11_told 2 RX11 3) {S : St} {res : (Int32 × St)} (X : RI ε κ (some .int) (some (.int res.1)) res.2) (h : f_X11_told_11 S = some res) : V ε κ 2 11 [(0, .ref (eA ε 0))] [] (wsOf ε S) 0 0 := by
  unfold f_X11_told_11 at h
  refine V_aload_n C 0 dX11_told_11 rfl rfl ?_
  refine V_iconst C dX11_told_12 kc_i_1 ?_
  obtain ⟨a2, S3, e1, h⟩ := bnd2_s h
  refine W_callvi C cf_X11_fail (c_X11_fail e1) q_ML_X11_82 (ws_X11 sk_0) rfl dX11_told_13 (by decide) rfl rfl (Nat.le_of_ble_eq_true rfl) ?_
  exact V_iret C X dX11_told_16 ⟨ri_1 h, ri_2 h⟩
def f_X11_told (S : St) (v1 : Int32) : Option (Int32 × St) :=
 (if v1 < (1 : Int32) then
 f_X11_told_11 S
 else
 (if v1 ≤ (6 : Int32) then
 bnd (f_X5_at S 170 v1) (fun a4 =>
 some (a4, S))
 else
 f_X11_told_11 S))
set_option maxRecDepth 20000 in
theorem v_X11_told_e {ε : eT} {κ : kT} (C : Act ε κ cX11_told 2 RX11 3) {S : St} {res : (Int32 × St)} (X : RI ε κ (some .int) (some (.int res.1)) res.2) {v1 : Int32} (h : f_X11_told S v1 = some res) : V ε κ 2 0 [(0, .ref (eA ε 0)), (1, .int v1)] [] (wsOf ε S) 0 0 := by
  unfold f_X11_told at h
  refine V_iload_n C 1 dX11_told_0 rfl rfl ?_
  refine V_iconst C dX11_told_1 kc_i_1 ?_
  refine V_icmp_lt C dX11_told_2 rfl (fun c1 => ?_) (fun c1 => ?_)
  · replace h := ifp c1 h
    refine V_sub C [0] rfl ?_
    exact v_X11_told_11 C X h
  · replace h := ifn c1 h
    refine V_iload_n C 1 dX11_told_5 rfl rfl ?_
    refine V_bipush C dX11_told_6 kc_b_6 ?_
    refine V_icmp_le C dX11_told_8 rfl (fun c2 => ?_) (fun c2 => ?_)
    · replace h := ifp c2 h
      refine V_aload_n C 0 dX11_told_17 rfl rfl ?_
      refine G_X11_errors (q := 0) C sk_0 q_FL_X11_57 dX11_told_18 ?_
      refine V_iload_n C 1 dX11_told_21 rfl rfl ?_
      obtain ⟨a4, e3, h⟩ := bnd_s h
      refine W_callvi C cf_X5_at (c_X5_at sk_170 e3) q_ML_X11_106 (ws_X5 sk_170) rfl dX11_told_22 (by decide) rfl rfl (Nat.le_of_ble_eq_true rfl) ?_
      exact V_iret C X dX11_told_25 ⟨ri_1 h, ri_2 h⟩
    · replace h := ifn c2 h
      refine V_sub C [0] rfl ?_
      exact v_X11_told_11 C X h
theorem c_X11_told {ε : eT} {S : St} {v1 : Int32} {res : (Int32 × St)} (h : f_X11_told S v1 = some res) : CI ε yX11_told cX11_told 2 (some .int) 3 [.ref (eA ε 0), .int v1] S (some (.int res.1)) res.2 := CI_of (by decide) (Nat.le_of_ble_eq_true rfl) rfl (fun κ C X => v_X11_told_e C X h)
def f_X11_town (N : Nat) (S : St) (v1 : Int32) : Option (Int32 × St) :=
 bnd (f_X11_within S v1 (6 : Int32)) (fun a2 =>
 (if a2 = 0 then
 bnd2 (f_X11_fail S (1 : Int32)) (fun a7 S8 =>
 some (a7, S8))
 else
 bnd (f_X9_figure N S 8 v1) (fun a5 =>
 some (a5, S))))
set_option maxRecDepth 20000 in
theorem v_X11_town_e {ε : eT} {κ : kT} {N : Nat} (C : Act ε κ cX11_town 2 RX11 6) {S : St} {res : (Int32 × St)} (X : RI ε κ (some .int) (some (.int res.1)) res.2) {v1 : Int32} (h : f_X11_town N S v1 = some res) : V ε κ 2 0 [(0, .ref (eA ε 0)), (1, .int v1)] [] (wsOf ε S) 0 0 := by
  unfold f_X11_town at h
  refine V_iload_n C 1 dX11_town_0 rfl rfl ?_
  refine V_bipush C dX11_town_1 kc_b_6 ?_
  obtain ⟨a2, e1, h⟩ := bnd_s h
  refine W_callsi C cf_X11_within (c_X11_within e1) q_ML_X11_75 dX11_town_3 (by decide) rfl rfl (Nat.le_of_ble_eq_true rfl) ?_
  refine V_if_ne C dX11_town_6 rfl (fun c3 => ?_) (fun c3 => ?_)
  · replace h := ifn c3 h
    refine V_aload_n C 0 dX11_town_15 rfl rfl ?_
    refine G_X11_now (q := 0) C sk_0 q_FL_X11_21 dX11_town_16 ?_
    refine V_iload_n C 1 dX11_town_19 rfl rfl ?_
    obtain ⟨a5, e4, h⟩ := bnd_s h
    refine W_callvi C cf_X9_figure (c_X9_figure sk_8 e4) q_ML_X11_274 (ws_X9 sk_8) rfl dX11_town_20 (by decide) rfl rfl (Nat.le_of_ble_eq_true rfl) ?_
    exact V_iret C X dX11_town_23 ⟨ri_1 h, ri_2 h⟩
  · replace h := ifp c3 h
    refine V_aload_n C 0 dX11_town_9 rfl rfl ?_
    refine V_iconst C dX11_town_10 kc_i_1 ?_
    obtain ⟨a7, S8, e6, h⟩ := bnd2_s h
    refine W_callvi C cf_X11_fail (c_X11_fail e6) q_ML_X11_82 (ws_X11 sk_0) rfl dX11_town_11 (by decide) rfl rfl (Nat.le_of_ble_eq_true rfl) ?_
    exact V_iret C X dX11_town_14 ⟨ri_1 h, ri_2 h⟩
theorem c_X11_town {ε : eT} {N : Nat} {S : St} {v1 : Int32} {res : (Int32 × St)} (h : f_X11_town N S v1 = some res) : CI ε yX11_town cX11_town 2 (some .int) 6 [.ref (eA ε 0), .int v1] S (some (.int res.1)) res.2 := CI_of (by decide) (Nat.le_of_ble_eq_true rfl) rfl (fun κ C X => v_X11_town_e C X h)
def f_X11_untell (N : Nat) (S : St) (v1 : Int32) : Option (Int32 × St) :=
 bnd (f_X11_within S v1 (1 : Int32)) (fun a2 =>
 (if a2 = 0 then
 bnd2 (f_X11_fail S (1 : Int32)) (fun a18 S19 =>
 some (a18, S19))
 else
 bnd (f_X11_textOf S v1) (fun a5 => (if sh a5 = 7 then
 bnd (f_X7_stands S a5) (fun a9 =>
 bnd (f_X11_textOf S v1) (fun a11 => (if sh a11 = 7 then
 bnd (f_X7_forget N S a11) (fun S15 =>
 (if a9 = 0 then
 some ((0 : Int32), S15)
 else
 some ((1 : Int32), S15)))
 else none)))
 else none))))
set_option maxRecDepth 20000 in
theorem v_X11_untell_e {ε : eT} {κ : kT} {N : Nat} (C : Act ε κ cX11_untell 3 RX11 4) {S : St} {res : (Int32 × St)} (X : RI ε κ (some .int) (some (.int res.1)) res.2) {v1 : Int32} (h : f_X11_untell N S v1 = some res) : V ε κ 3 0 [(0, .ref (eA ε 0)), (1, .int v1)] [] (wsOf ε S) 0 0 := by
  unfold f_X11_untell at h
  refine V_iload_n C 1 dX11_untell_0 rfl rfl ?_
  refine V_iconst C dX11_untell_1 kc_i_1 ?_
  obtain ⟨a2, e1, h⟩ := bnd_s h
  refine W_callsi C cf_X11_within (c_X11_within e1) q_ML_X11_75 dX11_untell_2 (by decide) rfl rfl (Nat.le_of_ble_eq_true rfl) ?_
  refine V_if_ne C dX11_untell_5 rfl (fun c3 => ?_) (fun c3 => ?_)
  · replace h := ifn c3 h
    refine V_aload_n C 0 dX11_untell_14 rfl rfl ?_
    refine V_iload_n C 1 dX11_untell_15 rfl rfl ?_
    obtain ⟨a5, e4, h⟩ := bnd_s h
    obtain ⟨hq6, h⟩ := gdt h
    refine W_callva C cf_X11_textOf (c_X11_textOf e4) q_ML_X11_206 (ws_X11 sk_0) rfl dX11_untell_16 (by decide) rfl rfl (Nat.le_of_ble_eq_true rfl) ?_
    obtain ⟨a9, e8, h⟩ := bnd_s h
    refine W_callvi C cf_X7_stands (c_X7_stands hq6 e8) q_ML_X11_219 (ws_X7 hq6) rfl dX11_untell_19 (by decide) rfl rfl (Nat.le_of_ble_eq_true rfl) ?_
    refine V_istore_n (lv' := [(2, .int a9), (0, .ref (eA ε 0)), (1, .int v1)]) C dX11_untell_22 rfl (by decide) rfl ?_
    refine V_aload_n C 1 dX11_untell_23 rfl rfl ?_
    refine V_iload_n C 2 dX11_untell_24 rfl rfl ?_
    obtain ⟨a11, e10, h⟩ := bnd_s h
    obtain ⟨hq12, h⟩ := gdt h
    refine W_callva C cf_X11_textOf (c_X11_textOf e10) q_ML_X11_206 (ws_X11 sk_0) rfl dX11_untell_25 (by decide) rfl rfl (Nat.le_of_ble_eq_true rfl) ?_
    obtain ⟨S15, e14, h⟩ := bnd_s h
    refine W_callvn C cf_X7_forget (c_X7_forget hq12 e14) q_ML_X11_223 (ws_X7 hq12) rfl dX11_untell_28 (by decide) rfl rfl (Nat.le_of_ble_eq_true rfl) ?_
    refine V_iload_n C 0 dX11_untell_31 rfl rfl ?_
    refine V_if_eq C dX11_untell_32 rfl (fun c16 => ?_) (fun c16 => ?_)
    · replace h := ifp c16 h
      refine V_iconst C dX11_untell_39 kc_i_0 ?_
      exact V_iret C X dX11_untell_40 ⟨ri_1 h, ri_2 h⟩
    · replace h := ifn c16 h
      refine V_iconst C dX11_untell_35 kc_i_1 ?_
      refine V_goto C dX11_untell_36 rfl ?_
      exact V_iret C X dX11_untell_40 ⟨ri_1 h, ri_2 h⟩
  · replace h := ifp c3 h
    refine V_aload_n C 0 dX11_untell_8 rfl rfl ?_
    refine V_iconst C dX11_untell_9 kc_i_1 ?_
    obtain ⟨a18, S19, e17, h⟩ := bnd2_s h
    refine W_callvi C cf_X11_fail (c_X11_fail e17) q_ML_X11_82 (ws_X11 sk_0) rfl dX11_untell_10 (by decide) rfl rfl (Nat.le_of_ble_eq_true rfl) ?_
    exact V_iret C X dX11_untell_13 ⟨ri_1 h, ri_2 h⟩
theorem c_X11_untell {ε : eT} {N : Nat} {S : St} {v1 : Int32} {res : (Int32 × St)} (h : f_X11_untell N S v1 = some res) : CI ε yX11_untell cX11_untell 3 (some .int) 4 [.ref (eA ε 0), .int v1] S (some (.int res.1)) res.2 := CI_of (by decide) (Nat.le_of_ble_eq_true rfl) rfl (fun κ C X => v_X11_untell_e C X h)
