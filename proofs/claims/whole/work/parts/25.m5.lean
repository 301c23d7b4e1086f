def f_X11_voice_16 (N : Nat) (S : St) : Option (Int32 × St) :=
 bnd2 (f_X11_fail S (1 : Int32)) (fun a2 S3 =>
 some (a2, S3))
set_option maxRecDepth 20000 in
theorem v_X11_voice_16 {ε : eT} {κ : kT} {N : Nat} (C : Act ε κ cX11_voice 5 RX11 70) {S : St} {res : (Int32 × St)} (X : RI ε κ (some .int) (some (.int res.1)) res.2) (h : f_X11_voice_16 N S = some res) : V ε κ 5 16 [(0, .ref (eA ε 0))] [] (wsOf ε S) 0 0 := by
  unfold f_X11_voice_16 at h
  refine V_aload_n C 0 dX11_voice_16 rfl rfl ?_
  refine V_iconst C dX11_voice_17 kc_i_1 ?_
  obtain ⟨a2, S3, e1, h⟩ := bnd2_s h
  refine W_callvi C cf_X11_fail (c_X11_fail e1) q_ML_X11_82 (ws_X11 sk_0) rfl dX11_voice_18 (by decide) rfl rfl (Nat.le_of_ble_eq_true rfl) ?_
  exact V_iret C X dX11_voice_21 ⟨ri_1 h, ri_2 h⟩
def f_X11_voice (N : Nat) (S : St) (v1 : Int32) (v2 : Int32) (v3 : Int32) : Option (Int32 × St) :=
 bnd (f_X11_isPerson S v1) (fun a2 =>
 (if a2 = 0 then
 f_X11_voice_16 N S
 else
 bnd (f_X11_within S v2 (3 : Int32)) (fun a5 =>
 (if a5 = 0 then
 f_X11_voice_16 N S
 else
 bnd2 (f_X10_speak N S 9 v1 v2 v3) (fun a8 S9 =>
 (if (S9.1 154 1) = 0 then
 some (a8, S9)
 else
 bnd2 (f_X11_fail S9 (6 : Int32)) (fun a12 S13 =>
 some (a12, S13))))))))
set_option maxRecDepth 20000 in
theorem v_X11_voice_e {ε : eT} {κ : kT} {N : Nat} (C : Act ε κ cX11_voice 5 RX11 70) {S : St} {res : (Int32 × St)} (X : RI ε κ (some .int) (some (.int res.1)) res.2) {v1 : Int32} {v2 : Int32} {v3 : Int32} (h : f_X11_voice N S v1 v2 v3 = some res) : V ε κ 5 0 [(0, .ref (eA ε 0)), (1, .int v1), (2, .int v2), (3, .int v3)] [] (wsOf ε S) 0 0 := by
  unfold f_X11_voice at h
  refine V_aload_n C 0 dX11_voice_0 rfl rfl ?_
  refine V_iload_n C 1 dX11_voice_1 rfl rfl ?_
  obtain ⟨a2, e1, h⟩ := bnd_s h
  refine W_callvi C cf_X11_isPerson (c_X11_isPerson e1) q_ML_X11_100 (ws_X11 sk_0) rfl dX11_voice_2 (by decide) rfl rfl (Nat.le_of_ble_eq_true rfl) ?_
  refine V_if_eq C dX11_voice_5 rfl (fun c3 => ?_) (fun c3 => ?_)
  · replace h := ifp c3 h
    refine V_sub C [0] rfl ?_
    exact v_X11_voice_16 C X h
  · replace h := ifn c3 h
    refine V_iload_n C 2 dX11_voice_8 rfl rfl ?_
    refine V_iconst C dX11_voice_9 kc_i_3 ?_
    obtain ⟨a5, e4, h⟩ := bnd_s h
    refine W_callsi C cf_X11_within (c_X11_within e4) q_ML_X11_75 dX11_voice_10 (by decide) rfl rfl (Nat.le_of_ble_eq_true rfl) ?_
    refine V_if_ne C dX11_voice_13 rfl (fun c6 => ?_) (fun c6 => ?_)
    · replace h := ifn c6 h
      refine V_aload_n C 0 dX11_voice_22 rfl rfl ?_
      refine G_X11_voices (q := 0) C sk_0 q_FL_X11_41 dX11_voice_23 ?_
      refine V_aload_n C 0 dX11_voice_26 rfl rfl ?_
      refine G_X11_now (q := 0) C sk_0 q_FL_X11_21 dX11_voice_27 ?_
      refine G_X9_people (q := 8) C sk_8 q_FL_X11_86 dX11_voice_30 ?_
      refine V_iload_n C 1 dX11_voice_33 rfl rfl ?_
      refine V_iload_n C 2 dX11_voice_34 rfl rfl ?_
      refine V_iload_n C 3 dX11_voice_35 rfl rfl ?_
      obtain ⟨a8, S9, e7, h⟩ := bnd2_s h
      refine W_callvi C cf_X10_speak (c_X10_speak sk_9 e7) q_ML_X11_291 (ws_X10 sk_154) rfl dX11_voice_36 (by decide) rfl rfl (Nat.le_of_ble_eq_true rfl) ?_
      refine V_istore (lv' := [(4, .int a8), (0, .ref (eA ε 0)), (1, .int v1), (2, .int v2), (3, .int v3)]) C dX11_voice_39 (by decide) rfl ?_
      refine V_aload_n C 1 dX11_voice_41 rfl rfl ?_
      refine G_X11_voices (q := 0) C sk_0 q_FL_X11_41 dX11_voice_42 ?_
      refine G_X10_parted (q := 154) C sk_154 q_FL_X11_295 dX11_voice_45 ?_
      refine V_if_eq C dX11_voice_48 rfl (fun c10 => ?_) (fun c10 => ?_)
      · replace h := ifp c10 h
        refine V_iload C 0 dX11_voice_60 rfl ?_
        exact V_iret C X dX11_voice_62 ⟨ri_1 h, ri_2 h⟩
      · replace h := ifn c10 h
        refine V_aload_n C 1 dX11_voice_51 rfl rfl ?_
        refine V_bipush C dX11_voice_52 kc_b_6 ?_
        obtain ⟨a12, S13, e11, h⟩ := bnd2_s h
        refine W_callvi C cf_X11_fail (c_X11_fail e11) q_ML_X11_82 (ws_X11 sk_0) rfl dX11_voice_54 (by decide) rfl rfl (Nat.le_of_ble_eq_true rfl) ?_
        refine V_goto C dX11_voice_57 rfl ?_
        exact V_iret C X dX11_voice_62 ⟨ri_1 h, ri_2 h⟩
    · replace h := ifp c6 h
      refine V_sub C [0] rfl ?_
      exact v_X11_voice_16 C X h
theorem c_X11_voice {ε : eT} {N : Nat} {S : St} {v1 : Int32} {v2 : Int32} {v3 : Int32} {res : (Int32 × St)} (h : f_X11_voice N S v1 v2 v3 = some res) : CI ε yX11_voice cX11_voice 5 (some .int) 70 [.ref (eA ε 0), .int v1, .int v2, .int v3] S (some (.int res.1)) res.2 := CI_of (by decide) (Nat.le_of_ble_eq_true rfl) rfl (fun κ C X => v_X11_voice_e C X h)
def f_X11_whose_17 (N : Nat) (S : St) : Option (Int32 × St) :=
 bnd2 (f_X11_fail S (1 : Int32)) (fun a2 S3 =>
 some (a2, S3))
set_option maxRecDepth 20000 in
theorem v_X11_whose_17 {ε : eT} {κ : kT} {N : Nat} (C : Act ε κ cX11_whose 3 RX11 8) {S : St} {res : (Int32 × St)} (X : RI ε κ (some .int) (some (.int res.1)) res.2) (h : f_X11_whose_17 N S = some res) : V ε κ 3 17 [(0, .ref (eA ε 0))] [] (wsOf ε S) 0 0 := by
  unfold f_X11_whose_17 at h
  refine V_aload_n C 0 dX11_whose_17 rfl rfl ?_
  refine V_iconst C dX11_whose_18 kc_i_1 ?_
  obtain ⟨a2, S3, e1, h⟩ := bnd2_s h
  refine W_callvi C cf_X11_fail (c_X11_fail e1) q_ML_X11_82 (ws_X11 sk_0) rfl dX11_whose_19 (by decide) rfl rfl (Nat.le_of_ble_eq_true rfl) ?_
  exact V_iret C X dX11_whose_22 ⟨ri_1 h, ri_2 h⟩
def f_X11_whose (N : Nat) (S : St) (v1 : Int32) (v2 : Int32) : Option (Int32 × St) :=
 bnd (f_X11_within S v1 (40 : Int32)) (fun a2 =>
 (if a2 = 0 then
 f_X11_whose_17 N S
 else
 bnd (f_X11_isThing S v2) (fun a5 =>
 (if a5 = 0 then
 f_X11_whose_17 N S
 else
 bnd (f_X9_copy S 55 8) (fun S8 =>
 bnd (f_X0_goBy N S8 55 v1) (fun S10 =>
 bnd (f_X5_at S10 66 v2) (fun a12 =>
 some (a12, S10))))))))
set_option maxRecDepth 20000 in
theorem v_X11_whose_e {ε : eT} {κ : kT} {N : Nat} (C : Act ε κ cX11_whose 3 RX11 8) {S : St} {res : (Int32 × St)} (X : RI ε κ (some .int) (some (.int res.1)) res.2) {v1 : Int32} {v2 : Int32} (h : f_X11_whose N S v1 v2 = some res) : V ε κ 3 0 [(0, .ref (eA ε 0)), (1, .int v1), (2, .int v2)] [] (wsOf ε S) 0 0 := by
  unfold f_X11_whose at h
  refine V_iload_n C 1 dX11_whose_0 rfl rfl ?_
  refine V_bipush C dX11_whose_1 kc_b_40 ?_
  obtain ⟨a2, e1, h⟩ := bnd_s h
  refine W_callsi C cf_X11_within (c_X11_within e1) q_ML_X11_75 dX11_whose_3 (by decide) rfl rfl (Nat.le_of_ble_eq_true rfl) ?_
  refine V_if_eq C dX11_whose_6 rfl (fun c3 => ?_) (fun c3 => ?_)
  · replace h := ifp c3 h
    refine V_sub C [0] rfl ?_
    exact v_X11_whose_17 C X h
  · replace h := ifn c3 h
    refine V_aload_n C 0 dX11_whose_9 rfl rfl ?_
    refine V_iload_n C 2 dX11_whose_10 rfl rfl ?_
    obtain ⟨a5, e4, h⟩ := bnd_s h
    refine W_callvi C cf_X11_isThing (c_X11_isThing e4) q_ML_X11_147 (ws_X11 sk_0) rfl dX11_whose_11 (by decide) rfl rfl (Nat.le_of_ble_eq_true rfl) ?_
    refine V_if_ne C dX11_whose_14 rfl (fun c6 => ?_) (fun c6 => ?_)
    · replace h := ifn c6 h
      refine V_aload_n C 0 dX11_whose_23 rfl rfl ?_
      refine G_X11_ahead (q := 0) C sk_0 q_FL_X11_25 dX11_whose_24 ?_
      refine V_aload_n C 0 dX11_whose_27 rfl rfl ?_
      refine G_X11_now (q := 0) C sk_0 q_FL_X11_21 dX11_whose_28 ?_
      obtain ⟨S8, e7, h⟩ := bnd_s h
      refine W_callvn C cf_X9_copy (c_X9_copy sk_55 sk_8 e7) q_ML_X11_280 (ws_X9 sk_55) rfl dX11_whose_31 (by decide) rfl rfl (Nat.le_of_ble_eq_true rfl) ?_
      refine V_aload_n C 0 dX11_whose_34 rfl rfl ?_
      refine G_X11_ahead (q := 0) C sk_0 q_FL_X11_25 dX11_whose_35 ?_
      refine V_iload_n C 1 dX11_whose_38 rfl rfl ?_
      obtain ⟨S10, e9, h⟩ := bnd_s h
      refine W_callsn C cf_X0_goBy (c_X0_goBy sk_55 e9) q_ML_X11_235 dX11_whose_39 (by decide) rfl rfl (Nat.le_of_ble_eq_true rfl) ?_
      refine V_aload_n C 0 dX11_whose_42 rfl rfl ?_
      refine G_X11_ahead (q := 0) C sk_0 q_FL_X11_25 dX11_whose_43 ?_
      refine G_X9_things (q := 55) C sk_55 q_FL_X11_118 dX11_whose_46 ?_
      refine G_X8_owners (q := 65) C sk_65 q_FL_X11_150 dX11_whose_49 ?_
      refine V_iload_n C 2 dX11_whose_52 rfl rfl ?_
      obtain ⟨a12, e11, h⟩ := bnd_s h
      refine W_callvi C cf_X5_at (c_X5_at sk_66 e11) q_ML_X11_106 (ws_X5 sk_66) rfl dX11_whose_53 (by decide) rfl rfl (Nat.le_of_ble_eq_true rfl) ?_
      exact V_iret C X dX11_whose_56 ⟨ri_1 h, ri_2 h⟩
    · replace h := ifp c6 h
      refine V_sub C [0] rfl ?_
      exact v_X11_whose_17 C X h
theorem c_X11_whose {ε : eT} {N : Nat} {S : St} {v1 : Int32} {v2 : Int32} {res : (Int32 × St)} (h : f_X11_whose N S v1 v2 = some res) : CI ε yX11_whose cX11_whose 3 (some .int) 8 [.ref (eA ε 0), .int v1, .int v2] S (some (.int res.1)) res.2 := CI_of (by decide) (Nat.le_of_ble_eq_true rfl) rfl (fun κ C X => v_X11_whose_e C X h)
def f_X11_worth_26 (S : St) : Option (Int32 × St) :=
 bnd2 (f_X11_fail S (1 : Int32)) (fun a2 S3 =>
 some (a2, S3))
set_option maxRecDepth 20000 in
theorem v_X11_worth_26 {ε : eT} {κ : kT} (C : Act ε κ cX11_worth 4 RX11 4) {S : St} {res : (Int32 × St)} (X : RI ε κ (some .int) (some (.int res.1)) res.2) (h : f_X11_worth_26 S = some res) : V ε κ 4 26 [(0, .ref (eA ε 0))] [] (wsOf ε S) 0 0 := by
  unfold f_X11_worth_26 at h
  refine V_aload_n C 0 dX11_worth_26 rfl rfl ?_
  refine V_iconst C dX11_worth_27 kc_i_1 ?_
  obtain ⟨a2, S3, e1, h⟩ := bnd2_s h
  refine W_callvi C cf_X11_fail (c_X11_fail e1) q_ML_X11_82 (ws_X11 sk_0) rfl dX11_worth_28 (by decide) rfl rfl (Nat.le_of_ble_eq_true rfl) ?_
  exact V_iret C X dX11_worth_31 ⟨ri_1 h, ri_2 h⟩
def f_X11_worth (S : St) (v1 : Int32) (v2 : Int32) (v3 : Int32) : Option (Int32 × St) :=
 bnd (f_X11_isPerson S v1) (fun a2 =>
 (if a2 = 0 then
 f_X11_worth_26 S
 else
 bnd (f_X11_isThing S v2) (fun a5 =>
 (if a5 = 0 then
 f_X11_worth_26 S
 else
 bnd (f_X11_within S v3 (9999 : Int32)) (fun a8 =>
 (if a8 = 0 then
 f_X11_worth_26 S
 else
 bnd2 (f_X8_setWorth S 18 v1 v2 v3) (fun a11 S12 =>
 some (a11, S12))))))))
set_option maxRecDepth 20000 in
theorem v_X11_worth_e {ε : eT} {κ : kT} (C : Act ε κ cX11_worth 4 RX11 4) {S : St} {res : (Int32 × St)} (X : RI ε κ (some .int) (some (.int res.1)) res.2) {v1 : Int32} {v2 : Int32} {v3 : Int32} (h : f_X11_worth S v1 v2 v3 = some res) : V ε κ 4 0 [(0, .ref (eA ε 0)), (1, .int v1), (2, .int v2), (3, .int v3)] [] (wsOf ε S) 0 0 := by
  unfold f_X11_worth at h
  refine V_aload_n C 0 dX11_worth_0 rfl rfl ?_
  refine V_iload_n C 1 dX11_worth_1 rfl rfl ?_
  obtain ⟨a2, e1, h⟩ := bnd_s h
  refine W_callvi C cf_X11_isPerson (c_X11_isPerson e1) q_ML_X11_100 (ws_X11 sk_0) rfl dX11_worth_2 (by decide) rfl rfl (Nat.le_of_ble_eq_true rfl) ?_
  refine V_if_eq C dX11_worth_5 rfl (fun c3 => ?_) (fun c3 => ?_)
  · replace h := ifp c3 h
    refine V_sub C [0] rfl ?_
    exact v_X11_worth_26 C X h
  · replace h := ifn c3 h
    refine V_aload_n C 0 dX11_worth_8 rfl rfl ?_
    refine V_iload_n C 2 dX11_worth_9 rfl rfl ?_
    obtain ⟨a5, e4, h⟩ := bnd_s h
    refine W_callvi C cf_X11_isThing (c_X11_isThing e4) q_ML_X11_147 (ws_X11 sk_0) rfl dX11_worth_10 (by decide) rfl rfl (Nat.le_of_ble_eq_true rfl) ?_
    refine V_if_eq C dX11_worth_13 rfl (fun c6 => ?_) (fun c6 => ?_)
    · replace h := ifp c6 h
      refine V_sub C [0] rfl ?_
      exact v_X11_worth_26 C X h
    · replace h := ifn c6 h
      refine V_iload_n C 3 dX11_worth_16 rfl rfl ?_
      refine V_sipush C dX11_worth_17 kc_s_9999 ?_
      obtain ⟨a8, e7, h⟩ := bnd_s h
      refine W_callsi C cf_X11_within (c_X11_within e7) q_ML_X11_75 dX11_worth_20 (by decide) rfl rfl (Nat.le_of_ble_eq_true rfl) ?_
      refine V_if_ne C dX11_worth_23 rfl (fun c9 => ?_) (fun c9 => ?_)
      · replace h := ifn c9 h
        refine V_aload_n C 0 dX11_worth_32 rfl rfl ?_
        refine G_X11_now (q := 0) C sk_0 q_FL_X11_21 dX11_worth_33 ?_
        refine G_X9_things (q := 8) C sk_8 q_FL_X11_118 dX11_worth_36 ?_
        refine V_iload_n C 1 dX11_worth_39 rfl rfl ?_
        refine V_iload_n C 2 dX11_worth_40 rfl rfl ?_
        refine V_iload_n C 3 dX11_worth_41 rfl rfl ?_
        obtain ⟨a11, S12, e10, h⟩ := bnd2_s h
        refine W_callvi C cf_X8_setWorth (c_X8_setWorth sk_18 e10) q_ML_X11_167 (ws_X8 sk_18) rfl dX11_worth_42 (by decide) rfl rfl (Nat.le_of_ble_eq_true rfl) ?_
        exact V_iret C X dX11_worth_45 ⟨ri_1 h, ri_2 h⟩
      · replace h := ifp c9 h
        refine V_sub C [0] rfl ?_
        exact v_X11_worth_26 C X h
theorem c_X11_worth {ε : eT} {S : St} {v1 : Int32} {v2 : Int32} {v3 : Int32} {res : (Int32 × St)} (h : f_X11_worth S v1 v2 v3 = some res) : CI ε yX11_worth cX11_worth 4 (some .int) 4 [.ref (eA ε 0), .int v1, .int v2, .int v3] S (some (.int res.1)) res.2 := CI_of (by decide) (Nat.le_of_ble_eq_true rfl) rfl (fun κ C X => v_X11_worth_e C X h)
def f_X11_worths_18 (N : Nat) (S : St) : Option (Int32 × St) :=
 bnd2 (f_X11_fail S (1 : Int32)) (fun a2 S3 =>
 some (a2, S3))
set_option maxRecDepth 20000 in
theorem v_X11_worths_18 {ε : eT} {κ : kT} {N : Nat} (C : Act ε κ cX11_worths 7 RX11 4) {S : St} {res : (Int32 × St)} (X : RI ε κ (some .int) (some (.int res.1)) res.2) (h : f_X11_worths_18 N S = some res) : V ε κ 7 18 [(0, .ref (eA ε 0))] [] (wsOf ε S) 0 0 := by
  unfold f_X11_worths_18 at h
  refine V_aload_n C 0 dX11_worths_18 rfl rfl ?_
  refine V_iconst C dX11_worths_19 kc_i_1 ?_
  obtain ⟨a2, S3, e1, h⟩ := bnd2_s h
  refine W_callvi C cf_X11_fail (c_X11_fail e1) q_ML_X11_82 (ws_X11 sk_0) rfl dX11_worths_20 (by decide) rfl rfl (Nat.le_of_ble_eq_true rfl) ?_
  exact V_iret C X dX11_worths_23 ⟨ri_1 h, ri_2 h⟩
def f_X11_worths_62 (N : Nat) : Nat → St → Int32 → Nat → Int32 → Int32 → Option (Int32 × St)
  | 0, _, _, _, _, _ => none
  | n + 1, S, v2, v3, v4, v5 =>
    (if v4 ≤ v5 then
     some (v4, S)
     else
     bnd (f_X5_at S (v3 + 1) v5) (fun a3 =>
     bnd (f_X11_within S a3 (9999 : Int32)) (fun a5 =>
     (if a5 = 0 then
     some (v5, S)
     else
     bnd2 (f_X8_setWorth S 18 v2 v5 a3) (fun a8 S9 =>
     f_X11_worths_62 N n S9 v2 v3 v4 (v5 + 1))))))
set_option maxRecDepth 20000 in
theorem v_X11_worths_62 {ε : eT} {κ : kT} {N : Nat} (C : Act ε κ cX11_worths 7 RX11 4) {res : (Int32 × St)} (X : RI ε κ (some .int) (some (.int res.1)) res.2) : ∀ (n : Nat) (S : St) (v2 : Int32) (v3 : Nat) (v4 : Int32) (v5 : Int32) (h3 : sh v3 = 6) (h : f_X11_worths_62 N n S v2 v3 v4 v5 = some res), V ε κ 7 62 [(0, .ref (eA ε 0)), (2, .int v2), (3, .ref (eA ε v3)), (4, .int v4), (5, .int v5)] [] (wsOf ε S) 0 0 := by
  intro n
  induction n with
  | zero => intro S v2 v3 v4 v5 h3 h; cases h
  | succ n ih =>
    intro S v2 v3 v4 v5 h3 h
    rw [f_X11_worths_62] at h
    refine V_iload C 4 dX11_worths_62 rfl ?_
    refine V_iload C 3 dX11_worths_64 rfl ?_
    refine V_icmp_ge C dX11_worths_66 rfl (fun c1 => ?_) (fun c1 => ?_)
    · replace h := ifp c1 h
      refine V_iload C 3 dX11_worths_116 rfl ?_
      exact V_iret C X dX11_worths_118 ⟨ri_1 h, ri_2 h⟩
    · replace h := ifn c1 h
      refine V_aload_n C 2 dX11_worths_69 rfl rfl ?_
      refine G_X6_numbers (q := v3) C h3 q_FL_X11_324 dX11_worths_70 ?_
      refine V_iload C 4 dX11_worths_73 rfl ?_
      obtain ⟨a3, e2, h⟩ := bnd_s h
      refine W_callvi C cf_X5_at (c_X5_at (so_6_1 h3) e2) q_ML_X11_106 (ws_X5 (so_6_1 h3)) rfl dX11_worths_75 (by decide) rfl rfl (Nat.le_of_ble_eq_true rfl) ?_
      refine V_istore (lv' := [(6, .int a3), (0, .ref (eA ε 0)), (2, .int v2), (3, .ref (eA ε v3)), (4, .int v4), (5, .int v5)]) C dX11_worths_78 (by decide) rfl ?_
      refine V_iload C 0 dX11_worths_80 rfl ?_
      refine V_sipush C dX11_worths_82 kc_s_9999 ?_
      obtain ⟨a5, e4, h⟩ := bnd_s h
      refine W_callsi C cf_X11_within (c_X11_within e4) q_ML_X11_75 dX11_worths_85 (by decide) rfl rfl (Nat.le_of_ble_eq_true rfl) ?_
      refine V_if_ne C dX11_worths_88 rfl (fun c6 => ?_) (fun c6 => ?_)
      · replace h := ifn c6 h
        refine V_aload_n C 1 dX11_worths_94 rfl rfl ?_
        refine G_X11_now (q := 0) C sk_0 q_FL_X11_21 dX11_worths_95 ?_
        refine G_X9_things (q := 8) C sk_8 q_FL_X11_118 dX11_worths_98 ?_
        refine V_iload_n C 2 dX11_worths_101 rfl rfl ?_
        refine V_iload C 5 dX11_worths_102 rfl ?_
        refine V_iload C 0 dX11_worths_104 rfl ?_
        obtain ⟨a8, S9, e7, h⟩ := bnd2_s h
        refine W_callvi C cf_X8_setWorth (c_X8_setWorth sk_18 e7) q_ML_X11_167 (ws_X8 sk_18) rfl dX11_worths_106 (by decide) rfl rfl (Nat.le_of_ble_eq_true rfl) ?_
        refine V_pop C dX11_worths_109 rfl ?_
        refine V_iinc (v := (v5 + 1)) (lv' := [(5, .int (v5 + 1)), (6, .int a3), (0, .ref (eA ε 0)), (2, .int v2), (3, .ref (eA ε v3)), (4, .int v4)]) C 5 dX11_worths_110 rfl (congrArg _ kc_i_1) (by decide) rfl ?_
        refine V_goto C dX11_worths_113 rfl ?_
        refine V_sub C [2, 3, 4, 5, 0] rfl ?_
        exact ih _ _ _ _ _ h3 h
      · replace h := ifp c6 h
        refine V_iload C 5 dX11_worths_91 rfl ?_
        exact V_iret C X dX11_worths_93 ⟨ri_1 h, ri_2 h⟩
def f_X11_worths (N : Nat) (S : St) (v1 : Int32) (v2 : Int32) : Option (Int32 × St) :=
 bnd (f_X11_sheetAt S v1) (fun o4 => oel o4
 (f_X11_worths_18 N S)
 (fun a2 => (if sh a2 = 6 then
 bnd (f_X11_isPerson S v2) (fun a6 =>
 (if a6 = 0 then
 f_X11_worths_18 N S
 else
 bnd (f_X6_isMissing S a2) (fun a9 =>
 (if a9 = 0 then
 bnd (f_X5_size S (a2 + 1)) (fun a12 =>
 bnd (f_X8_size S 18) (fun a14 =>
 f_X11_worths_62 N N S v2 a2 (if a14 < a12 then a14 else a12) (0 : Int32)))
 else
 bnd2 (f_X11_fail S (2 : Int32)) (fun a16 S17 =>
 some (a16, S17))))))
 else none)))
set_option maxRecDepth 20000 in
theorem v_X11_worths_e {ε : eT} {κ : kT} {N : Nat} (C : Act ε κ cX11_worths 7 RX11 4) {S : St} {res : (Int32 × St)} (X : RI ε κ (some .int) (some (.int res.1)) res.2) {v1 : Int32} {v2 : Int32} (h : f_X11_worths N S v1 v2 = some res) : V ε κ 7 0 [(0, .ref (eA ε 0)), (1, .int v1), (2, .int v2)] [] (wsOf ε S) 0 0 := by
  unfold f_X11_worths at h
  refine V_aload_n C 0 dX11_worths_0 rfl rfl ?_
  refine V_iload_n C 1 dX11_worths_1 rfl rfl ?_
  obtain ⟨o4, e1, h⟩ := bnd_s h
  cases o4 with
  | none =>
    replace h := oel_n h
    refine W_callvz C cf_X11_sheetAt (c_X11_sheetAt e1) q_ML_X11_302 (ws_X11 sk_0) rfl dX11_worths_2 (by decide) rfl rfl (Nat.le_of_ble_eq_true rfl) ?_
    refine V_astore_nN (lv' := [(3, .null), (0, .ref (eA ε 0)), (1, .int v1), (2, .int v2)]) C dX11_worths_5 rfl (by decide) rfl ?_
    refine V_aload_nN C 0 dX11_worths_6 rfl rfl ?_
    refine V_ifnullN C dX11_worths_7 rfl ?_
    refine V_sub C [1] rfl ?_
    exact v_X11_worths_18 C X h
  | some a2 =>
    replace h := oel_s h
    obtain ⟨hq3, h⟩ := gdt h
    refine W_callva C cf_X11_sheetAt (c_X11_sheetAt e1) q_ML_X11_302 (ws_X11 sk_0) rfl dX11_worths_2 (by decide) rfl rfl (Nat.le_of_ble_eq_true rfl) ?_
    refine V_astore_n (lv' := [(3, .ref (eA ε a2)), (0, .ref (eA ε 0)), (1, .int v1), (2, .int v2)]) C dX11_worths_5 rfl (by decide) rfl ?_
    refine V_aload_n C 0 dX11_worths_6 rfl rfl ?_
    refine V_ifnull C dX11_worths_7 ?_
    refine V_aload_n C 1 dX11_worths_10 rfl rfl ?_
    refine V_iload_n C 3 dX11_worths_11 rfl rfl ?_
    obtain ⟨a6, e5, h⟩ := bnd_s h
    refine W_callvi C cf_X11_isPerson (c_X11_isPerson e5) q_ML_X11_100 (ws_X11 sk_0) rfl dX11_worths_12 (by decide) rfl rfl (Nat.le_of_ble_eq_true rfl) ?_
    refine V_if_ne C dX11_worths_15 rfl (fun c7 => ?_) (fun c7 => ?_)
    · replace h := ifn c7 h
      refine V_aload_n C 0 dX11_worths_24 rfl rfl ?_
      obtain ⟨a9, e8, h⟩ := bnd_s h
      refine W_callvi C cf_X6_isMissing (c_X6_isMissing hq3 e8) q_ML_X11_312 (ws_X6 hq3) rfl dX11_worths_25 (by decide) rfl rfl (Nat.le_of_ble_eq_true rfl) ?_
      refine V_if_eq C dX11_worths_28 rfl (fun c10 => ?_) (fun c10 => ?_)
      · replace h := ifp c10 h
        refine V_aload_n C 0 dX11_worths_37 rfl rfl ?_
        refine G_X6_numbers (q := a2) C hq3 q_FL_X11_324 dX11_worths_38 ?_
        obtain ⟨a12, e11, h⟩ := bnd_s h
        refine W_callvi C cf_X5_size (c_X5_size (so_6_1 hq3) e11) q_ML_X11_176 (ws_X5 (so_6_1 hq3)) rfl dX11_worths_41 (by decide) rfl rfl (Nat.le_of_ble_eq_true rfl) ?_
        refine V_aload_n C 1 dX11_worths_44 rfl rfl ?_
        refine G_X11_now (q := 0) C sk_0 q_FL_X11_21 dX11_worths_45 ?_
        refine G_X9_things (q := 8) C sk_8 q_FL_X11_118 dX11_worths_48 ?_
        obtain ⟨a14, e13, h⟩ := bnd_s h
        refine W_callvi C cf_X8_size (c_X8_size sk_18 e13) q_ML_X11_143 (ws_X8 sk_18) rfl dX11_worths_51 (by decide) rfl rfl (Nat.le_of_ble_eq_true rfl) ?_
        refine V_mmin C q_ML_X11_331 (by decide) (Nat.le_of_ble_eq_true rfl) ⟨Nat.zero_le _, Nat.zero_le _⟩ dX11_worths_54 ?_
        refine V_istore (lv' := [(4, .int (if a14 < a12 then a14 else a12)), (3, .ref (eA ε a2)), (0, .ref (eA ε 0)), (1, .int v1), (2, .int v2)]) C dX11_worths_57 (by decide) rfl ?_
        refine V_iconst C dX11_worths_59 kc_i_0 ?_
        refine V_istore (lv' := [(5, .int (0 : Int32)), (4, .int (if a14 < a12 then a14 else a12)), (3, .ref (eA ε a2)), (0, .ref (eA ε 0)), (1, .int v1), (2, .int v2)]) C dX11_worths_60 (by decide) rfl ?_
        refine V_sub C [3, 5, 2, 1, 0] rfl ?_
        exact v_X11_worths_62 C X N _ _ _ _ _ hq3 h
      · replace h := ifn c10 h
        refine V_aload_n C 1 dX11_worths_31 rfl rfl ?_
        refine V_iconst C dX11_worths_32 kc_i_2 ?_
        obtain ⟨a16, S17, e15, h⟩ := bnd2_s h
        refine W_callvi C cf_X11_fail (c_X11_fail e15) q_ML_X11_82 (ws_X11 sk_0) rfl dX11_worths_33 (by decide) rfl rfl (Nat.le_of_ble_eq_true rfl) ?_
        exact V_iret C X dX11_worths_36 ⟨ri_1 h, ri_2 h⟩
    · replace h := ifp c7 h
      refine V_sub C [1] rfl ?_
      exact v_X11_worths_18 C X h
theorem c_X11_worths {ε : eT} {N : Nat} {S : St} {v1 : Int32} {v2 : Int32} {res : (Int32 × St)} (h : f_X11_worths N S v1 v2 = some res) : CI ε yX11_worths cX11_worths 7 (some .int) 4 [.ref (eA ε 0), .int v1, .int v2] S (some (.int res.1)) res.2 := CI_of (by decide) (Nat.le_of_ble_eq_true rfl) rfl (fun κ C X => v_X11_worths_e C X h)
def f_X11_years_11 (N : Nat) (S : St) : Option (Int32 × St) :=
 bnd2 (f_X11_fail S (1 : Int32)) (fun a2 S3 =>
 some (a2, S3))
set_option maxRecDepth 20000 in
theorem v_X11_years_11 {ε : eT} {κ : kT} {N : Nat} (C : Act ε κ cX11_years 2 RX11 8) {S : St} {res : (Int32 × St)} (X : RI ε κ (some .int) (some (.int res.1)) res.2) (h : f_X11_years_11 N S = some res) : V ε κ 2 11 [(0, .ref (eA ε 0))] [] (wsOf ε S) 0 0 := by
  unfold f_X11_years_11 at h
  refine V_aload_n C 0 dX11_years_11 rfl rfl ?_
  refine V_iconst C dX11_years_12 kc_i_1 ?_
  obtain ⟨a2, S3, e1, h⟩ := bnd2_s h
  refine W_callvi C cf_X11_fail (c_X11_fail e1) q_ML_X11_82 (ws_X11 sk_0) rfl dX11_years_13 (by decide) rfl rfl (Nat.le_of_ble_eq_true rfl) ?_
  exact V_iret C X dX11_years_16 ⟨ri_1 h, ri_2 h⟩
def f_X11_years (N : Nat) (S : St) (v1 : Int32) : Option (Int32 × St) :=
 (if v1 < (1 : Int32) then
 f_X11_years_11 N S
 else
 (if v1 ≤ (40 : Int32) then
 (if (S.1 8 11) ≤ ((9999 : Int32) - v1) then
 bnd (f_X0_goBy N S 8 v1) (fun S5 =>
 some ((S5.1 8 12), S5))
 else
 bnd2 (f_X11_fail S (3 : Int32)) (fun a7 S8 =>
 some (a7, S8)))
 else
 f_X11_years_11 N S))
set_option maxRecDepth 20000 in
theorem v_X11_years_e {ε : eT} {κ : kT} {N : Nat} (C : Act ε κ cX11_years 2 RX11 8) {S : St} {res : (Int32 × St)} (X : RI ε κ (some .int) (some (.int res.1)) res.2) {v1 : Int32} (h : f_X11_years N S v1 = some res) : V ε κ 2 0 [(0, .ref (eA ε 0)), (1, .int v1)] [] (wsOf ε S) 0 0 := by
  unfold f_X11_years at h
  refine V_iload_n C 1 dX11_years_0 rfl rfl ?_
  refine V_iconst C dX11_years_1 kc_i_1 ?_
  refine V_icmp_lt C dX11_years_2 rfl (fun c1 => ?_) (fun c1 => ?_)
  · replace h := ifp c1 h
    refine V_sub C [0] rfl ?_
    exact v_X11_years_11 C X h
  · replace h := ifn c1 h
    refine V_iload_n C 1 dX11_years_5 rfl rfl ?_
    refine V_bipush C dX11_years_6 kc_b_40 ?_
    refine V_icmp_le C dX11_years_8 rfl (fun c2 => ?_) (fun c2 => ?_)
    · replace h := ifp c2 h
      refine V_aload_n C 0 dX11_years_17 rfl rfl ?_
      refine G_X11_now (q := 0) C sk_0 q_FL_X11_21 dX11_years_18 ?_
      refine G_X9_years (q := 8) C sk_8 q_FL_X11_232 dX11_years_21 ?_
      refine V_sipush C dX11_years_24 kc_s_9999 ?_
      refine V_iload_n C 1 dX11_years_27 rfl rfl ?_
      refine V_isub C dX11_years_28 ?_
      refine V_icmp_le C dX11_years_29 rfl (fun c3 => ?_) (fun c3 => ?_)
      · replace h := ifp c3 h
        refine V_aload_n C 0 dX11_years_38 rfl rfl ?_
        refine G_X11_now (q := 0) C sk_0 q_FL_X11_21 dX11_years_39 ?_
        refine V_iload_n C 1 dX11_years_42 rfl rfl ?_
        obtain ⟨S5, e4, h⟩ := bnd_s h
        refine W_callsn C cf_X0_goBy (c_X0_goBy sk_8 e4) q_ML_X11_235 dX11_years_43 (by decide) rfl rfl (Nat.le_of_ble_eq_true rfl) ?_
        refine V_aload_n C 0 dX11_years_46 rfl rfl ?_
        refine G_X11_now (q := 0) C sk_0 q_FL_X11_21 dX11_years_47 ?_
        refine G_X9_moves (q := 8) C sk_8 q_FL_X11_241 dX11_years_50 ?_
        exact V_iret C X dX11_years_53 ⟨ri_1 h, ri_2 h⟩
      · replace h := ifn c3 h
        refine V_aload_n C 0 dX11_years_32 rfl rfl ?_
        refine V_iconst C dX11_years_33 kc_i_3 ?_
        obtain ⟨a7, S8, e6, h⟩ := bnd2_s h
        refine W_callvi C cf_X11_fail (c_X11_fail e6) q_ML_X11_82 (ws_X11 sk_0) rfl dX11_years_34 (by decide) rfl rfl (Nat.le_of_ble_eq_true rfl) ?_
        exact V_iret C X dX11_years_37 ⟨ri_1 h, ri_2 h⟩
    · replace h := ifn c2 h
      refine V_sub C [0] rfl ?_
      exact v_X11_years_11 C X h
theorem c_X11_years {ε : eT} {N : Nat} {S : St} {v1 : Int32} {res : (Int32 × St)} (h : f_X11_years N S v1 = some res) : CI ε yX11_years cX11_years 2 (some .int) 8 [.ref (eA ε 0), .int v1] S (some (.int res.1)) res.2 := CI_of (by decide) (Nat.le_of_ble_eq_true rfl) rfl (fun κ C X => v_X11_years_e C X h)
def f_X12_above_16 (S : St) : Option Int32 :=
 some (1 : Int32)
set_option maxRecDepth 20000 in
theorem v_X12_above_16 {ε : eT} {κ : kT} (C : Act ε κ cX12_above 1 RX12 1) {S : St} {res : Int32} (X : RI ε κ (some .int) (some (.int res)) S) (h : f_X12_above_16 S = some res) : V ε κ 1 16 [] [] (wsOf ε S) 0 0 := by
  unfold f_X12_above_16 at h
  refine V_iconst C dX12_above_16 kc_i_1 ?_
  refine V_goto C dX12_above_17 rfl ?_
  exact V_iret C X dX12_above_21 ⟨rip_1 h, rfl⟩
def f_X12_above (S : St) (v0 : Int32) : Option Int32 :=
 (if v0 = (2 : Int32) then
 f_X12_above_16 S
 else
 (if v0 = (3 : Int32) then
 f_X12_above_16 S
 else
 (if v0 = (6 : Int32) then
 f_X12_above_16 S
 else
 some (0 : Int32))))
set_option maxRecDepth 20000 in
theorem v_X12_above_e {ε : eT} {κ : kT} (C : Act ε κ cX12_above 1 RX12 1) {S : St} {res : Int32} (X : RI ε κ (some .int) (some (.int res)) S) {v0 : Int32} (h : f_X12_above S v0 = some res) : V ε κ 1 0 [(0, .int v0)] [] (wsOf ε S) 0 0 := by
  unfold f_X12_above at h
  refine V_iload_n C 0 dX12_above_0 rfl rfl ?_
  refine V_iconst C dX12_above_1 kc_i_2 ?_
  refine V_icmp_eq C dX12_above_2 rfl (fun c1 => ?_) (fun c1 => ?_)
  · replace h := ifp c1 h
    refine V_sub C [] rfl ?_
    exact v_X12_above_16 C X h
  · replace h := ifn c1 h
    refine V_iload_n C 0 dX12_above_5 rfl rfl ?_
    refine V_iconst C dX12_above_6 kc_i_3 ?_
    refine V_icmp_eq C dX12_above_7 rfl (fun c2 => ?_) (fun c2 => ?_)
    · replace h := ifp c2 h
      refine V_sub C [] rfl ?_
      exact v_X12_above_16 C X h
    · replace h := ifn c2 h
      refine V_iload_n C 0 dX12_above_10 rfl rfl ?_
      refine V_bipush C dX12_above_11 kc_b_6 ?_
      refine V_icmp_ne C dX12_above_13 rfl (fun c3 => ?_) (fun c3 => ?_)
      · replace h := ifn c3 h
        refine V_iconst C dX12_above_20 kc_i_0 ?_
        exact V_iret C X dX12_above_21 ⟨rip_1 h, rfl⟩
      · replace h := ifp c3 h
        refine V_sub C [] rfl ?_
        exact v_X12_above_16 C X h
theorem c_X12_above {ε : eT} {S : St} {v0 : Int32} {res : Int32} (h : f_X12_above S v0 = some res) : CI ε yX12_above cX12_above 1 (some .int) 1 [.int v0] S (some (.int res)) S := CI_of (by decide) (Nat.le_of_ble_eq_true rfl) rfl (fun κ C X => v_X12_above_e C X h)
def f_X12_its (S : St) (v1 : Int32) (v2 : Int32) : Option Int32 :=
 (if inb (((44 : Int32) + ((4 : Int32) * v1)) + v2) 516 = true then
 some (S.1 173 (((44 : Int32) + ((4 : Int32) * v1)) + v2).toNatClampNeg)
 else none)
set_option maxRecDepth 20000 in
theorem v_X12_its_e {ε : eT} {κ : kT} (C : Act ε κ cX12_its 3 RX12 1) {S : St} {res : Int32} (X : RI ε κ (some .int) (some (.int res)) S) {v1 : Int32} {v2 : Int32} (h : f_X12_its S v1 v2 = some res) : V ε κ 3 0 [(0, .ref (eA ε 172)), (1, .int v1), (2, .int v2)] [] (wsOf ε S) 0 0 := by
  unfold f_X12_its at h
  refine V_aload_n C 0 dX12_its_0 rfl rfl ?_
  refine G_X12_s (q := 172) C sk_172 q_FL_X12_7 dX12_its_1 ?_
  refine V_bipush C dX12_its_4 kc_b_44 ?_
  refine V_iconst C dX12_its_6 kc_i_4 ?_
  refine V_iload_n C 1 dX12_its_7 rfl rfl ?_
  refine V_imul C dX12_its_8 ?_
  refine V_iadd C dX12_its_9 ?_
  refine V_iload_n C 2 dX12_its_10 rfl rfl ?_
  refine V_iadd C dX12_its_11 ?_
  obtain ⟨g1, h⟩ := gdt h
  refine W_iald (q := 173) C sk_173 g1 dX12_its_12 ?_
  exact V_iret C X dX12_its_13 ⟨rip_1 h, rfl⟩
theorem c_X12_its {ε : eT} {S : St} {v1 : Int32} {v2 : Int32} {res : Int32} (h : f_X12_its S v1 v2 = some res) : CI ε yX12_its cX12_its 3 (some .int) 1 [.ref (eA ε 172), .int v1, .int v2] S (some (.int res)) S := CI_of (by decide) (Nat.le_of_ble_eq_true rfl) rfl (fun κ C X => v_X12_its_e C X h)
def f_X12_owner (S : St) (v1 : Int32) : Option Int32 :=
 bnd (f_X12_its S v1 (0 : Int32)) (fun a2 =>
 some a2)
set_option maxRecDepth 20000 in
theorem v_X12_owner_e {ε : eT} {κ : kT} (C : Act ε κ cX12_owner 2 RX12 2) {S : St} {res : Int32} (X : RI ε κ (some .int) (some (.int res)) S) {v1 : Int32} (h : f_X12_owner S v1 = some res) : V ε κ 2 0 [(0, .ref (eA ε 172)), (1, .int v1)] [] (wsOf ε S) 0 0 := by
  unfold f_X12_owner at h
  refine V_aload_n C 0 dX12_owner_0 rfl rfl ?_
  refine V_iload_n C 1 dX12_owner_1 rfl rfl ?_
  refine V_iconst C dX12_owner_2 kc_i_0 ?_
  obtain ⟨a2, e1, h⟩ := bnd_s h
  refine W_callvi C cf_X12_its (c_X12_its e1) q_ML_X12_51 (ws_X12 sk_172) rfl dX12_owner_3 (by decide) rfl rfl (Nat.le_of_ble_eq_true rfl) ?_
  exact V_iret C X dX12_owner_6 ⟨rip_1 h, rfl⟩
theorem c_X12_owner {ε : eT} {S : St} {v1 : Int32} {res : Int32} (h : f_X12_owner S v1 = some res) : CI ε yX12_owner cX12_owner 2 (some .int) 2 [.ref (eA ε 172), .int v1] S (some (.int res)) S := CI_of (by decide) (Nat.le_of_ble_eq_true rfl) rfl (fun κ C X => v_X12_owner_e C X h)
def f_X12_who (S : St) (v1 : Int32) (v2 : Int32) : Option Int32 :=
 (if inb (((20 : Int32) + ((4 : Int32) * v1)) + v2) 516 = true then
 some (S.1 173 (((20 : Int32) + ((4 : Int32) * v1)) + v2).toNatClampNeg)
 else none)
set_option maxRecDepth 20000 in
theorem v_X12_who_e {ε : eT} {κ : kT} (C : Act ε κ cX12_who 3 RX12 1) {S : St} {res : Int32} (X : RI ε κ (some .int) (some (.int res)) S) {v1 : Int32} {v2 : Int32} (h : f_X12_who S v1 v2 = some res) : V ε κ 3 0 [(0, .ref (eA ε 172)), (1, .int v1), (2, .int v2)] [] (wsOf ε S) 0 0 := by
  unfold f_X12_who at h
  refine V_aload_n C 0 dX12_who_0 rfl rfl ?_
  refine G_X12_s (q := 172) C sk_172 q_FL_X12_7 dX12_who_1 ?_
  refine V_bipush C dX12_who_4 kc_b_20 ?_
  refine V_iconst C dX12_who_6 kc_i_4 ?_
  refine V_iload_n C 1 dX12_who_7 rfl rfl ?_
  refine V_imul C dX12_who_8 ?_
  refine V_iadd C dX12_who_9 ?_
  refine V_iload_n C 2 dX12_who_10 rfl rfl ?_
  refine V_iadd C dX12_who_11 ?_
  obtain ⟨g1, h⟩ := gdt h
  refine W_iald (q := 173) C sk_173 g1 dX12_who_12 ?_
  exact V_iret C X dX12_who_13 ⟨rip_1 h, rfl⟩
theorem c_X12_who {ε : eT} {S : St} {v1 : Int32} {v2 : Int32} {res : Int32} (h : f_X12_who S v1 v2 = some res) : CI ε yX12_who cX12_who 3 (some .int) 1 [.ref (eA ε 172), .int v1, .int v2] S (some (.int res)) S := CI_of (by decide) (Nat.le_of_ble_eq_true rfl) rfl (fun κ C X => v_X12_who_e C X h)
def f_X12_allBelow_39 (N : Nat) (S : St) (K5 : Int32 → Int64 → Int32 → Option Int64) (v1 : Int32) (v4 : Int32) (s0 : Int64) (s1 : Int64) : Option Int64 :=
 K5 v1 (s1 * s0) (v4 + 1)
set_option maxRecDepth 20000 in
theorem v_X12_allBelow_39 {ε : eT} {κ : kT} {N : Nat} (C : Act ε κ cX12_allBelow 5 RX12 3) {S : St} {res : Int64} (X : RI ε κ (some .long) (some (.long res)) S) {K5 : Int32 → Int64 → Int32 → Option Int64} (hK5 : ∀ (v1 : Int32) (v2 : Int64) (v4 : Int32), K5 v1 v2 v4 = some res → V ε κ 5 5 [(0, .ref (eA ε 172)), (1, .int v1), (2, .long v2), (4, .int v4)] [] (wsOf ε S) 0 0) {v1 : Int32} {v4 : Int32} {s0 : Int64} {s1 : Int64} (h : f_X12_allBelow_39 N S K5 v1 v4 s0 s1 = some res) : V ε κ 5 39 [(0, .ref (eA ε 172)), (1, .int v1), (4, .int v4)] [.long s0, .long s1] (wsOf ε S) 0 0 := by
  unfold f_X12_allBelow_39 at h
  refine V_lmul C dX12_allBelow_39 ?_
  refine V_lstore_n (lv' := [(2, .long (s1 * s0)), (0, .ref (eA ε 172)), (1, .int v1), (4, .int v4)]) C dX12_allBelow_40 rfl (by decide) rfl ?_
  refine V_iinc (v := (v4 + 1)) (lv' := [(4, .int (v4 + 1)), (2, .long (s1 * s0)), (0, .ref (eA ε 172)), (1, .int v1)]) C 3 dX12_allBelow_41 rfl (congrArg _ kc_i_1) (by decide) rfl ?_
  refine V_goto C dX12_allBelow_44 rfl ?_
  refine V_sub C [2, 3, 1, 0] rfl ?_
  exact hK5 _ _ _ h
def f_X12_allBelow_5 (N : Nat) (S : St) : Nat → Int32 → Int64 → Int32 → Option Int64
  | 0, _, _, _ => none
  | n + 1, v1, v2, v4 =>
    (if (S.1 173 0) ≤ v4 then
     some v2
     else
     bnd (f_X12_owner S v1) (fun a3 =>
     (if v4 = a3 then
     f_X12_allBelow_39 N S (f_X12_allBelow_5 N S n) v1 v4 (1 : Int64) v2
     else
     bnd (f_X12_who S v4 (3 : Int32)) (fun a6 =>
     f_X12_allBelow_39 N S (f_X12_allBelow_5 N S n) v1 v4 ((a6).toInt64) v2))))
set_option maxRecDepth 20000 in
theorem v_X12_allBelow_5 {ε : eT} {κ : kT} {N : Nat} (C : Act ε κ cX12_allBelow 5 RX12 3) {S : St} {res : Int64} (X : RI ε κ (some .long) (some (.long res)) S) : ∀ (n : Nat) (v1 : Int32) (v2 : Int64) (v4 : Int32) (h : f_X12_allBelow_5 N S n v1 v2 v4 = some res), V ε κ 5 5 [(0, .ref (eA ε 172)), (1, .int v1), (2, .long v2), (4, .int v4)] [] (wsOf ε S) 0 0 := by
  intro n
  induction n with
  | zero => intro v1 v2 v4 h; cases h
  | succ n ih =>
    intro v1 v2 v4 h
    rw [f_X12_allBelow_5] at h
    refine V_iload C 3 dX12_allBelow_5 rfl ?_
    refine V_aload_n C 0 dX12_allBelow_7 rfl rfl ?_
    refine G_X12_s (q := 172) C sk_172 q_FL_X12_7 dX12_allBelow_8 ?_
    refine V_iconst C dX12_allBelow_11 kc_i_0 ?_
    refine W_ialdc (q := 173) C sk_173 (j := 0) tn_0 (by decide) dX12_allBelow_12 ?_
    refine V_icmp_ge C dX12_allBelow_13 rfl (fun c1 => ?_) (fun c1 => ?_)
    · replace h := ifp c1 h
      refine V_lload_n C 2 dX12_allBelow_47 rfl rfl ?_
      exact V_lret C X dX12_allBelow_48 ⟨rlp_1 h, rfl⟩
    · replace h := ifn c1 h
      refine V_lload_n C 2 dX12_allBelow_16 rfl rfl ?_
      refine V_iload C 3 dX12_allBelow_17 rfl ?_
      refine V_aload_n C 0 dX12_allBelow_19 rfl rfl ?_
      refine V_iload_n C 1 dX12_allBelow_20 rfl rfl ?_
      obtain ⟨a3, e2, h⟩ := bnd_s h
      refine W_callvi C cf_X12_owner (c_X12_owner e2) q_ML_X12_67 (ws_X12 sk_172) rfl dX12_allBelow_21 (by decide) rfl rfl (Nat.le_of_ble_eq_true rfl) ?_
      refine V_icmp_ne C dX12_allBelow_24 rfl (fun c4 => ?_) (fun c4 => ?_)
      · replace h := ifn c4 h
        refine V_aload_n C 0 dX12_allBelow_31 rfl rfl ?_
        refine V_iload C 3 dX12_allBelow_32 rfl ?_
        refine V_iconst C dX12_allBelow_34 kc_i_3 ?_
        obtain ⟨a6, e5, h⟩ := bnd_s h
        refine W_callvi C cf_X12_who (c_X12_who e5) q_ML_X12_79 (ws_X12 sk_172) rfl dX12_allBelow_35 (by decide) rfl rfl (Nat.le_of_ble_eq_true rfl) ?_
        refine V_i2l C dX12_allBelow_38 ?_
        refine V_sub C [0, 1, 3] rfl ?_
        exact v_X12_allBelow_39 C X ih h
      · replace h := ifp c4 h
        refine V_lconst C dX12_allBelow_27 kc_l_1 ?_
        refine V_goto C dX12_allBelow_28 rfl ?_
        refine V_sub C [0, 1, 3] rfl ?_
        exact v_X12_allBelow_39 C X ih h
def f_X12_allBelow (N : Nat) (S : St) (v1 : Int32) : Option Int64 :=
 f_X12_allBelow_5 N S N v1 (1 : Int64) (0 : Int32)
set_option maxRecDepth 20000 in
theorem v_X12_allBelow_e {ε : eT} {κ : kT} {N : Nat} (C : Act ε κ cX12_allBelow 5 RX12 3) {S : St} {res : Int64} (X : RI ε κ (some .long) (some (.long res)) S) {v1 : Int32} (h : f_X12_allBelow N S v1 = some res) : V ε κ 5 0 [(0, .ref (eA ε 172)), (1, .int v1)] [] (wsOf ε S) 0 0 := by
  unfold f_X12_allBelow at h
  refine V_lconst C dX12_allBelow_0 kc_l_1 ?_
  refine V_lstore_n (lv' := [(2, .long (1 : Int64)), (0, .ref (eA ε 172)), (1, .int v1)]) C dX12_allBelow_1 rfl (by decide) rfl ?_
  refine V_iconst C dX12_allBelow_2 kc_i_0 ?_
  refine V_istore (lv' := [(4, .int (0 : Int32)), (2, .long (1 : Int64)), (0, .ref (eA ε 172)), (1, .int v1)]) C dX12_allBelow_3 (by decide) rfl ?_
  refine V_sub C [2, 3, 1, 0] rfl ?_
  exact v_X12_allBelow_5 C X N _ _ _ h
theorem c_X12_allBelow {ε : eT} {N : Nat} {S : St} {v1 : Int32} {res : Int64} (h : f_X12_allBelow N S v1 = some res) : CI ε yX12_allBelow cX12_allBelow 5 (some .long) 3 [.ref (eA ε 172), .int v1] S (some (.long res)) S := CI_of (by decide) (Nat.le_of_ble_eq_true rfl) rfl (fun κ C X => v_X12_allBelow_e C X h)
def f_X12_in (S : St) (v0 : Int32) (v1 : Int32) (v2 : Int32) : Option Int32 :=
 (if v0 < v1 then
 some (0 : Int32)
 else
 (if v2 < v0 then
 some (0 : Int32)
 else
 some (1 : Int32)))
set_option maxRecDepth 20000 in
theorem v_X12_in_e {ε : eT} {κ : kT} (C : Act ε κ cX12_in 3 RX12 1) {S : St} {res : Int32} (X : RI ε κ (some .boolean) (some (.int res)) S) {v0 : Int32} {v1 : Int32} {v2 : Int32} (h : f_X12_in S v0 v1 v2 = some res) : V ε κ 3 0 [(0, .int v0), (1, .int v1), (2, .int v2)] [] (wsOf ε S) 0 0 := by
  unfold f_X12_in at h
  refine V_iload_n C 0 dX12_in_0 rfl rfl ?_
  refine V_iload_n C 1 dX12_in_1 rfl rfl ?_
  refine V_icmp_lt C dX12_in_2 rfl (fun c1 => ?_) (fun c1 => ?_)
  · replace h := ifp c1 h
    refine V_iconst C dX12_in_14 kc_i_0 ?_
    exact V_zret C nb_0 X dX12_in_15 ⟨rip_1 h, rfl⟩
  · replace h := ifn c1 h
    refine V_iload_n C 0 dX12_in_5 rfl rfl ?_
    refine V_iload_n C 2 dX12_in_6 rfl rfl ?_
    refine V_icmp_gt C dX12_in_7 rfl (fun c2 => ?_) (fun c2 => ?_)
    · replace h := ifp c2 h
      refine V_iconst C dX12_in_14 kc_i_0 ?_
      exact V_zret C nb_0 X dX12_in_15 ⟨rip_1 h, rfl⟩
    · replace h := ifn c2 h
      refine V_iconst C dX12_in_10 kc_i_1 ?_
      refine V_goto C dX12_in_11 rfl ?_
      exact V_zret C nb_1 X dX12_in_15 ⟨rip_1 h, rfl⟩
theorem c_X12_in {ε : eT} {S : St} {v0 : Int32} {v1 : Int32} {v2 : Int32} {res : Int32} (h : f_X12_in S v0 v1 v2 = some res) : CI ε yX12_in cX12_in 3 (some .boolean) 1 [.int v0, .int v1, .int v2] S (some (.int res)) S := CI_of (by decide) (Nat.le_of_ble_eq_true rfl) rfl (fun κ C X => v_X12_in_e C X h)
def f_X12_isPerson (S : St) (v1 : Int32) : Option Int32 :=
 bnd (f_X12_in S v1 (0 : Int32) ((S.1 173 0) - (1 : Int32))) (fun a2 =>
 (if bo a2 = true then some a2 else none))
set_option maxRecDepth 20000 in
theorem v_X12_isPerson_e {ε : eT} {κ : kT} (C : Act ε κ cX12_isPerson 2 RX12 2) {S : St} {res : Int32} (X : RI ε κ (some .boolean) (some (.int res)) S) {v1 : Int32} (h : f_X12_isPerson S v1 = some res) : V ε κ 2 0 [(0, .ref (eA ε 172)), (1, .int v1)] [] (wsOf ε S) 0 0 := by
  unfold f_X12_isPerson at h
  refine V_iload_n C 1 dX12_isPerson_0 rfl rfl ?_
  refine V_iconst C dX12_isPerson_1 kc_i_0 ?_
  refine V_aload_n C 0 dX12_isPerson_2 rfl rfl ?_
  refine G_X12_s (q := 172) C sk_172 q_FL_X12_7 dX12_isPerson_3 ?_
  refine V_iconst C dX12_isPerson_6 kc_i_0 ?_
  refine W_ialdc (q := 173) C sk_173 (j := 0) tn_0 (by decide) dX12_isPerson_7 ?_
  refine V_iconst C dX12_isPerson_8 kc_i_1 ?_
  refine V_isub C dX12_isPerson_9 ?_
  obtain ⟨a2, e1, h⟩ := bnd_s h
  refine W_callsi C cf_X12_in (c_X12_in e1) q_ML_X12_47 dX12_isPerson_10 (by decide) rfl rfl (Nat.le_of_ble_eq_true rfl) ?_
  obtain ⟨g3, h⟩ := gdt h
  exact V_zret C (nb_v g3) X dX12_isPerson_13 ⟨rip_1 h, rfl⟩
theorem c_X12_isPerson {ε : eT} {S : St} {v1 : Int32} {res : Int32} (h : f_X12_isPerson S v1 = some res) : CI ε yX12_isPerson cX12_isPerson 2 (some .boolean) 2 [.ref (eA ε 172), .int v1] S (some (.int res)) S := CI_of (by decide) (Nat.le_of_ble_eq_true rfl) rfl (fun κ C X => v_X12_isPerson_e C X h)
def f_X12_error (S : St) (v1 : Int32) : Option (Int32 × St) :=
 (if inb v1 7 = true then
 (if inb v1 7 = true then
 some (((-1000000000 : Int32) - v1), (pt S 176 v1.toNatClampNeg ((S.1 176 v1.toNatClampNeg) + (1 : Int32))))
 else none)
 else none)
set_option maxRecDepth 20000 in
theorem v_X12_error_e {ε : eT} {κ : kT} (C : Act ε κ cX12_error 2 RX12 1) {S : St} {res : (Int32 × St)} (X : RI ε κ (some .int) (some (.int res.1)) res.2) {v1 : Int32} (h : f_X12_error S v1 = some res) : V ε κ 2 0 [(0, .ref (eA ε 172)), (1, .int v1)] [] (wsOf ε S) 0 0 := by
  unfold f_X12_error at h
  refine V_aload_n C 0 dX12_error_0 rfl rfl ?_
  refine G_X12_errors (q := 172) C sk_172 q_FL_X12_19 dX12_error_1 ?_
  refine V_iload_n C 1 dX12_error_4 rfl rfl ?_
  refine V_dup2 C dX12_error_5 rfl rfl ?_
  obtain ⟨g1, h⟩ := gdt h
  refine W_iald (q := 176) C sk_176 g1 dX12_error_6 ?_
  refine V_iconst C dX12_error_7 kc_i_1 ?_
  refine V_iadd C dX12_error_8 ?_
  obtain ⟨g2, h⟩ := gdt h
  refine W_iast (q := 176) C sk_176 g2 dX12_error_9 ?_
  refine V_ldc C q_K_X12_46 dX12_error_10 ?_
  refine V_iload_n C 1 dX12_error_12 rfl rfl ?_
  refine V_isub C dX12_error_13 ?_
  exact V_iret C X dX12_error_14 ⟨ri_1 h, ri_2 h⟩
theorem c_X12_error {ε : eT} {S : St} {v1 : Int32} {res : (Int32 × St)} (h : f_X12_error S v1 = some res) : CI ε yX12_error cX12_error 2 (some .int) 1 [.ref (eA ε 172), .int v1] S (some (.int res.1)) res.2 := CI_of (by decide) (Nat.le_of_ble_eq_true rfl) rfl (fun κ C X => v_X12_error_e C X h)
def f_X12_isUnder_30 (S : St) : Option Int32 :=
 some (1 : Int32)
set_option maxRecDepth 20000 in
theorem v_X12_isUnder_30 {ε : eT} {κ : kT} (C : Act ε κ cX12_isUnder 2 RX12 1) {S : St} {res : Int32} (X : RI ε κ (some .boolean) (some (.int res)) S) (h : f_X12_isUnder_30 S = some res) : V ε κ 2 30 [] [] (wsOf ε S) 0 0 := by
  unfold f_X12_isUnder_30 at h
  refine V_iconst C dX12_isUnder_30 kc_i_1 ?_
  refine V_goto C dX12_isUnder_31 rfl ?_
  exact V_zret C nb_1 X dX12_isUnder_35 ⟨rip_1 h, rfl⟩
def f_X12_isUnder (S : St) (v0 : Int32) (v1 : Int32) : Option Int32 :=
 (if v1 = 0 then
 f_X12_isUnder_30 S
 else
 (if v0 = v1 then
 f_X12_isUnder_30 S
 else
 (if v1 = (1 : Int32) then
 (if v0 = (2 : Int32) then
 f_X12_isUnder_30 S
 else
 (if v0 = (3 : Int32) then
 f_X12_isUnder_30 S
 else
 (if v0 = (6 : Int32) then
 f_X12_isUnder_30 S
 else
 some (0 : Int32))))
 else
 some (0 : Int32))))
set_option maxRecDepth 20000 in
theorem v_X12_isUnder_e {ε : eT} {κ : kT} (C : Act ε κ cX12_isUnder 2 RX12 1) {S : St} {res : Int32} (X : RI ε κ (some .boolean) (some (.int res)) S) {v0 : Int32} {v1 : Int32} (h : f_X12_isUnder S v0 v1 = some res) : V ε κ 2 0 [(0, .int v0), (1, .int v1)] [] (wsOf ε S) 0 0 := by
  unfold f_X12_isUnder at h
  refine V_iload_n C 1 dX12_isUnder_0 rfl rfl ?_
  refine V_if_eq C dX12_isUnder_1 rfl (fun c1 => ?_) (fun c1 => ?_)
  · replace h := ifp c1 h
    refine V_sub C [] rfl ?_
    exact v_X12_isUnder_30 C X h
  · replace h := ifn c1 h
    refine V_iload_n C 0 dX12_isUnder_4 rfl rfl ?_
    refine V_iload_n C 1 dX12_isUnder_5 rfl rfl ?_
    refine V_icmp_eq C dX12_isUnder_6 rfl (fun c2 => ?_) (fun c2 => ?_)
    · replace h := ifp c2 h
      refine V_sub C [] rfl ?_
      exact v_X12_isUnder_30 C X h
    · replace h := ifn c2 h
      refine V_iload_n C 1 dX12_isUnder_9 rfl rfl ?_
      refine V_iconst C dX12_isUnder_10 kc_i_1 ?_
      refine V_icmp_ne C dX12_isUnder_11 rfl (fun c3 => ?_) (fun c3 => ?_)
      · replace h := ifn c3 h
        refine V_iconst C dX12_isUnder_34 kc_i_0 ?_
        exact V_zret C nb_0 X dX12_isUnder_35 ⟨rip_1 h, rfl⟩
      · replace h := ifp c3 h
        refine V_iload_n C 0 dX12_isUnder_14 rfl rfl ?_
        refine V_iconst C dX12_isUnder_15 kc_i_2 ?_
        refine V_icmp_eq C dX12_isUnder_16 rfl (fun c4 => ?_) (fun c4 => ?_)
        · replace h := ifp c4 h
          refine V_sub C [] rfl ?_
          exact v_X12_isUnder_30 C X h
        · replace h := ifn c4 h
          refine V_iload_n C 0 dX12_isUnder_19 rfl rfl ?_
          refine V_iconst C dX12_isUnder_20 kc_i_3 ?_
          refine V_icmp_eq C dX12_isUnder_21 rfl (fun c5 => ?_) (fun c5 => ?_)
          · replace h := ifp c5 h
            refine V_sub C [] rfl ?_
            exact v_X12_isUnder_30 C X h
          · replace h := ifn c5 h
            refine V_iload_n C 0 dX12_isUnder_24 rfl rfl ?_
            refine V_bipush C dX12_isUnder_25 kc_b_6 ?_
            refine V_icmp_ne C dX12_isUnder_27 rfl (fun c6 => ?_) (fun c6 => ?_)
            · replace h := ifn c6 h
              refine V_iconst C dX12_isUnder_34 kc_i_0 ?_
              exact V_zret C nb_0 X dX12_isUnder_35 ⟨rip_1 h, rfl⟩
            · replace h := ifp c6 h
              refine V_sub C [] rfl ?_
              exact v_X12_isUnder_30 C X h
theorem c_X12_isUnder {ε : eT} {S : St} {v0 : Int32} {v1 : Int32} {res : Int32} (h : f_X12_isUnder S v0 v1 = some res) : CI ε yX12_isUnder cX12_isUnder 2 (some .boolean) 1 [.int v0, .int v1] S (some (.int res)) S := CI_of (by decide) (Nat.le_of_ble_eq_true rfl) rfl (fun κ C X => v_X12_isUnder_e C X h)
def f_X12_as_18 (S : St) : Option (Int32 × St) :=
 bnd2 (f_X12_error S (1 : Int32)) (fun a2 S3 =>
 some (a2, S3))
set_option maxRecDepth 20000 in
theorem v_X12_as_18 {ε : eT} {κ : kT} (C : Act ε κ cX12_as 3 RX12 3) {S : St} {res : (Int32 × St)} (X : RI ε κ (some .int) (some (.int res.1)) res.2) (h : f_X12_as_18 S = some res) : V ε κ 3 18 [(0, .ref (eA ε 172))] [] (wsOf ε S) 0 0 := by
  unfold f_X12_as_18 at h
  refine V_aload_n C 0 dX12_as_18 rfl rfl ?_
  refine V_iconst C dX12_as_19 kc_i_1 ?_
  obtain ⟨a2, S3, e1, h⟩ := bnd2_s h
  refine W_callvi C cf_X12_error (c_X12_error e1) q_ML_X12_60 (ws_X12 sk_172) rfl dX12_as_20 (by decide) rfl rfl (Nat.le_of_ble_eq_true rfl) ?_
  exact V_iret C X dX12_as_23 ⟨ri_1 h, ri_2 h⟩
def f_X12_as (S : St) (v1 : Int32) (v2 : Int32) : Option (Int32 × St) :=
 bnd (f_X12_isPerson S v1) (fun a2 =>
 (if a2 = 0 then
 f_X12_as_18 S
 else
 bnd (f_X12_in S v2 (0 : Int32) (6 : Int32)) (fun a5 =>
 (if a5 = 0 then
 f_X12_as_18 S
 else
 bnd (f_X12_who S v1 (0 : Int32)) (fun a8 =>
 bnd (f_X12_isUnder S a8 v2) (fun a10 =>
 (if a10 = 0 then
 bnd2 (f_X12_error S (5 : Int32)) (fun a13 S14 =>
 some (a13, S14))
 else
 bnd (f_X12_who S v1 (1 : Int32)) (fun a16 =>
 some (a16, S)))))))))
set_option maxRecDepth 20000 in
theorem v_X12_as_e {ε : eT} {κ : kT} (C : Act ε κ cX12_as 3 RX12 3) {S : St} {res : (Int32 × St)} (X : RI ε κ (some .int) (some (.int res.1)) res.2) {v1 : Int32} {v2 : Int32} (h : f_X12_as S v1 v2 = some res) : V ε κ 3 0 [(0, .ref (eA ε 172)), (1, .int v1), (2, .int v2)] [] (wsOf ε S) 0 0 := by
  unfold f_X12_as at h
  refine V_aload_n C 0 dX12_as_0 rfl rfl ?_
  refine V_iload_n C 1 dX12_as_1 rfl rfl ?_
  obtain ⟨a2, e1, h⟩ := bnd_s h
  refine W_callvi C cf_X12_isPerson (c_X12_isPerson e1) q_ML_X12_76 (ws_X12 sk_172) rfl dX12_as_2 (by decide) rfl rfl (Nat.le_of_ble_eq_true rfl) ?_
  refine V_if_eq C dX12_as_5 rfl (fun c3 => ?_) (fun c3 => ?_)
  · replace h := ifp c3 h
    refine V_sub C [0] rfl ?_
    exact v_X12_as_18 C X h
  · replace h := ifn c3 h
    refine V_iload_n C 2 dX12_as_8 rfl rfl ?_
    refine V_iconst C dX12_as_9 kc_i_0 ?_
    refine V_bipush C dX12_as_10 kc_b_6 ?_
    obtain ⟨a5, e4, h⟩ := bnd_s h
    refine W_callsi C cf_X12_in (c_X12_in e4) q_ML_X12_47 dX12_as_12 (by decide) rfl rfl (Nat.le_of_ble_eq_true rfl) ?_
    refine V_if_ne C dX12_as_15 rfl (fun c6 => ?_) (fun c6 => ?_)
    · replace h := ifn c6 h
      refine V_aload_n C 0 dX12_as_24 rfl rfl ?_
      refine V_iload_n C 1 dX12_as_25 rfl rfl ?_
      refine V_iconst C dX12_as_26 kc_i_0 ?_
      obtain ⟨a8, e7, h⟩ := bnd_s h
      refine W_callvi C cf_X12_who (c_X12_who e7) q_ML_X12_79 (ws_X12 sk_172) rfl dX12_as_27 (by decide) rfl rfl (Nat.le_of_ble_eq_true rfl) ?_
      refine V_iload_n C 2 dX12_as_30 rfl rfl ?_
      obtain ⟨a10, e9, h⟩ := bnd_s h
      refine W_callsi C cf_X12_isUnder (c_X12_isUnder e9) q_ML_X12_88 dX12_as_31 (by decide) rfl rfl (Nat.le_of_ble_eq_true rfl) ?_
      refine V_if_eq C dX12_as_34 rfl (fun c11 => ?_) (fun c11 => ?_)
      · replace h := ifp c11 h
        refine V_aload_n C 0 dX12_as_46 rfl rfl ?_
        refine V_iconst C dX12_as_47 kc_i_5 ?_
        obtain ⟨a13, S14, e12, h⟩ := bnd2_s h
        refine W_callvi C cf_X12_error (c_X12_error e12) q_ML_X12_60 (ws_X12 sk_172) rfl dX12_as_48 (by decide) rfl rfl (Nat.le_of_ble_eq_true rfl) ?_
        exact V_iret C X dX12_as_51 ⟨ri_1 h, ri_2 h⟩
      · replace h := ifn c11 h
        refine V_aload_n C 0 dX12_as_37 rfl rfl ?_
        refine V_iload_n C 1 dX12_as_38 rfl rfl ?_
        refine V_iconst C dX12_as_39 kc_i_1 ?_
        obtain ⟨a16, e15, h⟩ := bnd_s h
        refine W_callvi C cf_X12_who (c_X12_who e15) q_ML_X12_79 (ws_X12 sk_172) rfl dX12_as_40 (by decide) rfl rfl (Nat.le_of_ble_eq_true rfl) ?_
        refine V_goto C dX12_as_43 rfl ?_
        exact V_iret C X dX12_as_51 ⟨ri_1 h, ri_2 h⟩
    · replace h := ifp c6 h
      refine V_sub C [0] rfl ?_
      exact v_X12_as_18 C X h
theorem c_X12_as {ε : eT} {S : St} {v1 : Int32} {v2 : Int32} {res : (Int32 × St)} (h : f_X12_as S v1 v2 = some res) : CI ε yX12_as cX12_as 3 (some .int) 3 [.ref (eA ε 172), .int v1, .int v2] S (some (.int res.1)) res.2 := CI_of (by decide) (Nat.le_of_ble_eq_true rfl) rfl (fun κ C X => v_X12_as_e C X h)
def f_X12_become_18 (S : St) : Option (Int32 × St) :=
 bnd2 (f_X12_error S (1 : Int32)) (fun a2 S3 =>
 some (a2, S3))
set_option maxRecDepth 20000 in
theorem v_X12_become_18 {ε : eT} {κ : kT} (C : Act ε κ cX12_become 4 RX12 3) {S : St} {res : (Int32 × St)} (X : RI ε κ (some .int) (some (.int res.1)) res.2) (h : f_X12_become_18 S = some res) : V ε κ 4 18 [(0, .ref (eA ε 172))] [] (wsOf ε S) 0 0 := by
  unfold f_X12_become_18 at h
  refine V_aload_n C 0 dX12_become_18 rfl rfl ?_
  refine V_iconst C dX12_become_19 kc_i_1 ?_
  obtain ⟨a2, S3, e1, h⟩ := bnd2_s h
  refine W_callvi C cf_X12_error (c_X12_error e1) q_ML_X12_60 (ws_X12 sk_172) rfl dX12_become_20 (by decide) rfl rfl (Nat.le_of_ble_eq_true rfl) ?_
  exact V_iret C X dX12_become_23 ⟨ri_1 h, ri_2 h⟩
def f_X12_become (S : St) (v1 : Int32) (v2 : Int32) : Option (Int32 × St) :=
 bnd (f_X12_isPerson S v1) (fun a2 =>
 (if a2 = 0 then
 f_X12_become_18 S
 else
 bnd (f_X12_in S v2 (0 : Int32) (6 : Int32)) (fun a5 =>
 (if a5 = 0 then
 f_X12_become_18 S
 else
 bnd (f_X12_who S v1 (0 : Int32)) (fun a8 =>
 (if inb (((20 : Int32) + ((4 : Int32) * v1)) + (0 : Int32)) 516 = true then
 some (a8, (pt S 173 (((20 : Int32) + ((4 : Int32) * v1)) + (0 : Int32)).toNatClampNeg v2))
 else none))))))
set_option maxRecDepth 20000 in
theorem v_X12_become_e {ε : eT} {κ : kT} (C : Act ε κ cX12_become 4 RX12 3) {S : St} {res : (Int32 × St)} (X : RI ε κ (some .int) (some (.int res.1)) res.2) {v1 : Int32} {v2 : Int32} (h : f_X12_become S v1 v2 = some res) : V ε κ 4 0 [(0, .ref (eA ε 172)), (1, .int v1), (2, .int v2)] [] (wsOf ε S) 0 0 := by
  unfold f_X12_become at h
  refine V_aload_n C 0 dX12_become_0 rfl rfl ?_
  refine V_iload_n C 1 dX12_become_1 rfl rfl ?_
  obtain ⟨a2, e1, h⟩ := bnd_s h
  refine W_callvi C cf_X12_isPerson (c_X12_isPerson e1) q_ML_X12_76 (ws_X12 sk_172) rfl dX12_become_2 (by decide) rfl rfl (Nat.le_of_ble_eq_true rfl) ?_
  refine V_if_eq C dX12_become_5 rfl (fun c3 => ?_) (fun c3 => ?_)
  · replace h := ifp c3 h
    refine V_sub C [0] rfl ?_
    exact v_X12_become_18 C X h
  · replace h := ifn c3 h
    refine V_iload_n C 2 dX12_become_8 rfl rfl ?_
    refine V_iconst C dX12_become_9 kc_i_0 ?_
    refine V_bipush C dX12_become_10 kc_b_6 ?_
    obtain ⟨a5, e4, h⟩ := bnd_s h
    refine W_callsi C cf_X12_in (c_X12_in e4) q_ML_X12_47 dX12_become_12 (by decide) rfl rfl (Nat.le_of_ble_eq_true rfl) ?_
    refine V_if_ne C dX12_become_15 rfl (fun c6 => ?_) (fun c6 => ?_)
    · replace h := ifn c6 h
      refine V_aload_n C 0 dX12_become_24 rfl rfl ?_
      refine V_iload_n C 1 dX12_become_25 rfl rfl ?_
      refine V_iconst C dX12_become_26 kc_i_0 ?_
      obtain ⟨a8, e7, h⟩ := bnd_s h
      refine W_callvi C cf_X12_who (c_X12_who e7) q_ML_X12_79 (ws_X12 sk_172) rfl dX12_become_27 (by decide) rfl rfl (Nat.le_of_ble_eq_true rfl) ?_
      refine V_istore_n (lv' := [(3, .int a8), (0, .ref (eA ε 172)), (1, .int v1), (2, .int v2)]) C dX12_become_30 rfl (by decide) rfl ?_
      refine V_aload_n C 1 dX12_become_31 rfl rfl ?_
      refine G_X12_s (q := 172) C sk_172 q_FL_X12_7 dX12_become_32 ?_
      refine V_bipush C dX12_become_35 kc_b_20 ?_
      refine V_iconst C dX12_become_37 kc_i_4 ?_
      refine V_iload_n C 2 dX12_become_38 rfl rfl ?_
      refine V_imul C dX12_become_39 ?_
      refine V_iadd C dX12_become_40 ?_
      refine V_iconst C dX12_become_41 kc_i_0 ?_
      refine V_iadd C dX12_become_42 ?_
      refine V_iload_n C 3 dX12_become_43 rfl rfl ?_
      obtain ⟨g9, h⟩ := gdt h
      refine W_iast (q := 173) C sk_173 g9 dX12_become_44 ?_
      refine V_iload_n C 0 dX12_become_45 rfl rfl ?_
      exact V_iret C X dX12_become_46 ⟨ri_1 h, ri_2 h⟩
    · replace h := ifp c6 h
      refine V_sub C [0] rfl ?_
      exact v_X12_become_18 C X h
theorem c_X12_become {ε : eT} {S : St} {v1 : Int32} {v2 : Int32} {res : (Int32 × St)} (h : f_X12_become S v1 v2 = some res) : CI ε yX12_become cX12_become 4 (some .int) 3 [.ref (eA ε 172), .int v1, .int v2] S (some (.int res.1)) res.2 := CI_of (by decide) (Nat.le_of_ble_eq_true rfl) rfl (fun κ C X => v_X12_become_e C X h)
def f_X12_begins (S : St) (v1 : Int32) : Option St :=
 (if (30 : Int32) ≤ (S.1 172 13) then
 some S
 else
 (if inb (S.1 172 13) 30 = true then
 some (pt (pt S 180 (S.1 172 13).toNatClampNeg v1) 172 13 (((pt S 180 (S.1 172 13).toNatClampNeg v1).1 172 13) + (1 : Int32)))
 else none))
set_option maxRecDepth 20000 in
theorem v_X12_begins_e {ε : eT} {κ : kT} (C : Act ε κ cX12_begins 2 RX12 1) {S : St} {res : St} (X : RI ε κ none none res) {v1 : Int32} (h : f_X12_begins S v1 = some res) : V ε κ 2 0 [(0, .ref (eA ε 172)), (1, .int v1)] [] (wsOf ε S) 0 0 := by
  unfold f_X12_begins at h
  refine V_aload_n C 0 dX12_begins_0 rfl rfl ?_
  refine G_X12_traced (q := 172) C sk_172 q_FL_X12_245 dX12_begins_1 ?_
  refine V_bipush C dX12_begins_4 kc_b_30 ?_
  refine V_icmp_ge C dX12_begins_6 rfl (fun c1 => ?_) (fun c1 => ?_)
  · replace h := ifp c1 h
    exact V_vret C X dX12_begins_29 ⟨rfl, rv_2 h⟩
  · replace h := ifn c1 h
    refine V_aload_n C 0 dX12_begins_9 rfl rfl ?_
    refine G_X12_trace (q := 172) C sk_172 q_FL_X12_31 dX12_begins_10 ?_
    refine V_aload_n C 0 dX12_begins_13 rfl rfl ?_
    refine G_X12_traced (q := 172) C sk_172 q_FL_X12_245 dX12_begins_14 ?_
    refine V_iload_n C 1 dX12_begins_17 rfl rfl ?_
    obtain ⟨g2, h⟩ := gdt h
    refine W_iast (q := 180) C sk_180 g2 dX12_begins_18 ?_
    refine V_aload_n C 0 dX12_begins_19 rfl rfl ?_
    refine V_dup C dX12_begins_20 rfl ?_
    refine G_X12_traced (q := 172) C sk_172 q_FL_X12_245 dX12_begins_21 ?_
    refine V_iconst C dX12_begins_24 kc_i_1 ?_
    refine V_iadd C dX12_begins_25 ?_
    refine P_X12_traced (q := 172) C sk_172 q_FL_X12_245 dX12_begins_26 ?_
    exact V_vret C X dX12_begins_29 ⟨rfl, rv_2 h⟩
theorem c_X12_begins {ε : eT} {S : St} {v1 : Int32} {res : St} (h : f_X12_begins S v1 = some res) : CI ε yX12_begins cX12_begins 2 none 1 [.ref (eA ε 172), .int v1] S none res := CI_of (by decide) (Nat.le_of_ble_eq_true rfl) rfl (fun κ C X => v_X12_begins_e C X h)
def f_X12_isThing (S : St) (v1 : Int32) : Option Int32 :=
 bnd (f_X12_in S v1 (0 : Int32) ((S.1 173 1) - (1 : Int32))) (fun a2 =>
 (if bo a2 = true then some a2 else none))
set_option maxRecDepth 20000 in
theorem v_X12_isThing_e {ε : eT} {κ : kT} (C : Act ε κ cX12_isThing 2 RX12 2) {S : St} {res : Int32} (X : RI ε κ (some .boolean) (some (.int res)) S) {v1 : Int32} (h : f_X12_isThing S v1 = some res) : V ε κ 2 0 [(0, .ref (eA ε 172)), (1, .int v1)] [] (wsOf ε S) 0 0 := by
  unfold f_X12_isThing at h
  refine V_iload_n C 1 dX12_isThing_0 rfl rfl ?_
  refine V_iconst C dX12_isThing_1 kc_i_0 ?_
  refine V_aload_n C 0 dX12_isThing_2 rfl rfl ?_
  refine G_X12_s (q := 172) C sk_172 q_FL_X12_7 dX12_isThing_3 ?_
  refine V_iconst C dX12_isThing_6 kc_i_1 ?_
  refine W_ialdc (q := 173) C sk_173 (j := 1) tn_1 (by decide) dX12_isThing_7 ?_
  refine V_iconst C dX12_isThing_8 kc_i_1 ?_
  refine V_isub C dX12_isThing_9 ?_
  obtain ⟨a2, e1, h⟩ := bnd_s h
  refine W_callsi C cf_X12_in (c_X12_in e1) q_ML_X12_47 dX12_isThing_10 (by decide) rfl rfl (Nat.le_of_ble_eq_true rfl) ?_
  obtain ⟨g3, h⟩ := gdt h
  exact V_zret C (nb_v g3) X dX12_isThing_13 ⟨rip_1 h, rfl⟩
theorem c_X12_isThing {ε : eT} {S : St} {v1 : Int32} {res : Int32} (h : f_X12_isThing S v1 = some res) : CI ε yX12_isThing cX12_isThing 2 (some .boolean) 2 [.ref (eA ε 172), .int v1] S (some (.int res)) S := CI_of (by decide) (Nat.le_of_ble_eq_true rfl) rfl (fun κ C X => v_X12_isThing_e C X h)
def f_X12_valueTo (S : St) (v1 : Int32) (v2 : Int32) : Option Int32 :=
 (if inb (((110 : Int32) + ((12 : Int32) * v1)) + v2) 516 = true then
 bnd (f_X12_its S v2 (2 : Int32)) (fun a3 =>
 some (((S.1 173 (((110 : Int32) + ((12 : Int32) * v1)) + v2).toNatClampNeg) * a3) / (100 : Int32)))
 else none)
set_option maxRecDepth 20000 in
theorem v_X12_valueTo_e {ε : eT} {κ : kT} (C : Act ε κ cX12_valueTo 3 RX12 2) {S : St} {res : Int32} (X : RI ε κ (some .int) (some (.int res)) S) {v1 : Int32} {v2 : Int32} (h : f_X12_valueTo S v1 v2 = some res) : V ε κ 3 0 [(0, .ref (eA ε 172)), (1, .int v1), (2, .int v2)] [] (wsOf ε S) 0 0 := by
  unfold f_X12_valueTo at h
  refine V_aload_n C 0 dX12_valueTo_0 rfl rfl ?_
  refine G_X12_s (q := 172) C sk_172 q_FL_X12_7 dX12_valueTo_1 ?_
  refine V_bipush C dX12_valueTo_4 kc_b_110 ?_
  refine V_bipush C dX12_valueTo_6 kc_b_12 ?_
  refine V_iload_n C 1 dX12_valueTo_8 rfl rfl ?_
  refine V_imul C dX12_valueTo_9 ?_
  refine V_iadd C dX12_valueTo_10 ?_
  refine V_iload_n C 2 dX12_valueTo_11 rfl rfl ?_
  refine V_iadd C dX12_valueTo_12 ?_
  obtain ⟨g1, h⟩ := gdt h
  refine W_iald (q := 173) C sk_173 g1 dX12_valueTo_13 ?_
  refine V_aload_n C 0 dX12_valueTo_14 rfl rfl ?_
  refine V_iload_n C 2 dX12_valueTo_15 rfl rfl ?_
  refine V_iconst C dX12_valueTo_16 kc_i_2 ?_
  obtain ⟨a3, e2, h⟩ := bnd_s h
  refine W_callvi C cf_X12_its (c_X12_its e2) q_ML_X12_51 (ws_X12 sk_172) rfl dX12_valueTo_17 (by decide) rfl rfl (Nat.le_of_ble_eq_true rfl) ?_
  refine V_imul C dX12_valueTo_20 ?_
  refine V_bipush C dX12_valueTo_21 kc_b_100 ?_
  refine V_idiv C dX12_valueTo_23 (by decide) ?_
  exact V_iret C X dX12_valueTo_24 ⟨rip_1 h, rfl⟩
theorem c_X12_valueTo {ε : eT} {S : St} {v1 : Int32} {v2 : Int32} {res : Int32} (h : f_X12_valueTo S v1 v2 = some res) : CI ε yX12_valueTo cX12_valueTo 3 (some .int) 2 [.ref (eA ε 172), .int v1, .int v2] S (some (.int res)) S := CI_of (by decide) (Nat.le_of_ble_eq_true rfl) rfl (fun κ C X => v_X12_valueTo_e C X h)
def f_X12_nobody_81 (N : Nat) (S : St) (K5 : Int32 → Int32 → Int64 → Int32 → Option Int64) (v1 : Int32) (v2 : Int32) (v5 : Int32) (s0 : Int64) (s1 : Int64) : Option Int64 :=
 K5 v1 v2 (s1 * s0) (v5 + 1)
set_option maxRecDepth 20000 in
theorem v_X12_nobody_81 {ε : eT} {κ : kT} {N : Nat} (C : Act ε κ cX12_nobody 7 RX12 3) {S : St} {res : Int64} (X : RI ε κ (some .long) (some (.long res)) S) {K5 : Int32 → Int32 → Int64 → Int32 → Option Int64} (hK5 : ∀ (v1 : Int32) (v2 : Int32) (v3 : Int64) (v5 : Int32), K5 v1 v2 v3 v5 = some res → V ε κ 7 5 [(0, .ref (eA ε 172)), (1, .int v1), (2, .int v2), (3, .long v3), (5, .int v5)] [] (wsOf ε S) 0 0) {v1 : Int32} {v2 : Int32} {v5 : Int32} {s0 : Int64} {s1 : Int64} (h : f_X12_nobody_81 N S K5 v1 v2 v5 s0 s1 = some res) : V ε κ 7 81 [(0, .ref (eA ε 172)), (1, .int v1), (2, .int v2), (5, .int v5)] [.long s0, .long s1] (wsOf ε S) 0 0 := by
  unfold f_X12_nobody_81 at h
  refine V_lmul C dX12_nobody_81 ?_
  refine V_lstore_n (lv' := [(3, .long (s1 * s0)), (0, .ref (eA ε 172)), (1, .int v1), (2, .int v2), (5, .int v5)]) C dX12_nobody_82 rfl (by decide) rfl ?_
  refine V_iinc (v := (v5 + 1)) (lv' := [(5, .int (v5 + 1)), (3, .long (s1 * s0)), (0, .ref (eA ε 172)), (1, .int v1), (2, .int v2)]) C 4 dX12_nobody_83 rfl (congrArg _ kc_i_1) (by decide) rfl ?_
  refine V_goto C dX12_nobody_86 rfl ?_
  refine V_sub C [2, 3, 4, 1, 0] rfl ?_
  exact hK5 _ _ _ _ h
def f_X12_nobody_32 (N : Nat) (S : St) (K5 : Int32 → Int32 → Int64 → Int32 → Option Int64) (v1 : Int32) (v2 : Int32) (v3 : Int64) (v5 : Int32) (s0 : Int32) : Option Int64 :=
 bnd (f_X12_owner S v1) (fun a2 =>
 (if v5 = a2 then
 f_X12_nobody_81 N S K5 v1 v2 v5 (1 : Int64) v3
 else
 (if s0 = 0 then
 bnd (f_X12_who S v5 (3 : Int32)) (fun a6 =>
 f_X12_nobody_81 N S K5 v1 v2 v5 ((a6).toInt64) v3)
 else
 bnd (f_X12_who S v5 (3 : Int32)) (fun a8 =>
 bnd (f_X12_who S v5 (2 : Int32)) (fun a10 =>
 f_X12_nobody_81 N S K5 v1 v2 v5 (((a8 - a10)).toInt64) v3)))))
set_option maxRecDepth 20000 in
theorem v_X12_nobody_32 {ε : eT} {κ : kT} {N : Nat} (C : Act ε κ cX12_nobody 7 RX12 3) {S : St} {res : Int64} (X : RI ε κ (some .long) (some (.long res)) S) {K5 : Int32 → Int32 → Int64 → Int32 → Option Int64} (hK5 : ∀ (v1 : Int32) (v2 : Int32) (v3 : Int64) (v5 : Int32), K5 v1 v2 v3 v5 = some res → V ε κ 7 5 [(0, .ref (eA ε 172)), (1, .int v1), (2, .int v2), (3, .long v3), (5, .int v5)] [] (wsOf ε S) 0 0) {v1 : Int32} {v2 : Int32} {v3 : Int64} {v5 : Int32} {s0 : Int32} (h : f_X12_nobody_32 N S K5 v1 v2 v3 v5 s0 = some res) : V ε κ 7 32 [(0, .ref (eA ε 172)), (1, .int v1), (2, .int v2), (3, .long v3), (5, .int v5)] [.int s0] (wsOf ε S) 0 0 := by
  unfold f_X12_nobody_32 at h
  refine V_istore (lv' := [(6, .int s0), (0, .ref (eA ε 172)), (1, .int v1), (2, .int v2), (3, .long v3), (5, .int v5)]) C dX12_nobody_32 (by decide) rfl ?_
  refine V_lload_n C 4 dX12_nobody_34 rfl rfl ?_
  refine V_iload C 5 dX12_nobody_35 rfl ?_
  refine V_aload_n C 1 dX12_nobody_37 rfl rfl ?_
  refine V_iload_n C 2 dX12_nobody_38 rfl rfl ?_
  obtain ⟨a2, e1, h⟩ := bnd_s h
  refine W_callvi C cf_X12_owner (c_X12_owner e1) q_ML_X12_67 (ws_X12 sk_172) rfl dX12_nobody_39 (by decide) rfl rfl (Nat.le_of_ble_eq_true rfl) ?_
  refine V_icmp_ne C dX12_nobody_42 rfl (fun c3 => ?_) (fun c3 => ?_)
  · replace h := ifn c3 h
    refine V_iload C 0 dX12_nobody_49 rfl ?_
    refine V_if_eq C dX12_nobody_51 rfl (fun c4 => ?_) (fun c4 => ?_)
    · replace h := ifp c4 h
      refine V_aload_n C 1 dX12_nobody_73 rfl rfl ?_
      refine V_iload C 5 dX12_nobody_74 rfl ?_
      refine V_iconst C dX12_nobody_76 kc_i_3 ?_
      obtain ⟨a6, e5, h⟩ := bnd_s h
      refine W_callvi C cf_X12_who (c_X12_who e5) q_ML_X12_79 (ws_X12 sk_172) rfl dX12_nobody_77 (by decide) rfl rfl (Nat.le_of_ble_eq_true rfl) ?_
      refine V_i2l C dX12_nobody_80 ?_
      refine V_sub C [1, 2, 3, 5] rfl ?_
      exact v_X12_nobody_81 C X hK5 h
    · replace h := ifn c4 h
      refine V_aload_n C 1 dX12_nobody_54 rfl rfl ?_
      refine V_iload C 5 dX12_nobody_55 rfl ?_
      refine V_iconst C dX12_nobody_57 kc_i_3 ?_
      obtain ⟨a8, e7, h⟩ := bnd_s h
      refine W_callvi C cf_X12_who (c_X12_who e7) q_ML_X12_79 (ws_X12 sk_172) rfl dX12_nobody_58 (by decide) rfl rfl (Nat.le_of_ble_eq_true rfl) ?_
      refine V_aload_n C 1 dX12_nobody_61 rfl rfl ?_
      refine V_iload C 5 dX12_nobody_62 rfl ?_
      refine V_iconst C dX12_nobody_64 kc_i_2 ?_
      obtain ⟨a10, e9, h⟩ := bnd_s h
      refine W_callvi C cf_X12_who (c_X12_who e9) q_ML_X12_79 (ws_X12 sk_172) rfl dX12_nobody_65 (by decide) rfl rfl (Nat.le_of_ble_eq_true rfl) ?_
      refine V_isub C dX12_nobody_68 ?_
      refine V_i2l C dX12_nobody_69 ?_
      refine V_goto C dX12_nobody_70 rfl ?_
      refine V_sub C [1, 2, 3, 5] rfl ?_
      exact v_X12_nobody_81 C X hK5 h
  · replace h := ifp c3 h
    refine V_lconst C dX12_nobody_45 kc_l_1 ?_
    refine V_goto C dX12_nobody_46 rfl ?_
    refine V_sub C [1, 2, 3, 5] rfl ?_
    exact v_X12_nobody_81 C X hK5 h
def f_X12_nobody_5 (N : Nat) (S : St) : Nat → Int32 → Int32 → Int64 → Int32 → Option Int64
  | 0, _, _, _, _ => none
  | n + 1, v1, v2, v3, v5 =>
    (if (S.1 173 0) ≤ v5 then
     some v3
     else
     bnd (f_X12_valueTo S v5 v1) (fun a3 =>
     (if a3 ≤ v2 then
     f_X12_nobody_32 N S (f_X12_nobody_5 N S n) v1 v2 v3 v5 (0 : Int32)
     else
     f_X12_nobody_32 N S (f_X12_nobody_5 N S n) v1 v2 v3 v5 (1 : Int32))))
set_option maxRecDepth 20000 in
theorem v_X12_nobody_5 {ε : eT} {κ : kT} {N : Nat} (C : Act ε κ cX12_nobody 7 RX12 3) {S : St} {res : Int64} (X : RI ε κ (some .long) (some (.long res)) S) : ∀ (n : Nat) (v1 : Int32) (v2 : Int32) (v3 : Int64) (v5 : Int32) (h : f_X12_nobody_5 N S n v1 v2 v3 v5 = some res), V ε κ 7 5 [(0, .ref (eA ε 172)), (1, .int v1), (2, .int v2), (3, .long v3), (5, .int v5)] [] (wsOf ε S) 0 0 := by
  intro n
  induction n with
  | zero => intro v1 v2 v3 v5 h; cases h
  | succ n ih =>
    intro v1 v2 v3 v5 h
    rw [f_X12_nobody_5] at h
    refine V_iload C 4 dX12_nobody_5 rfl ?_
    refine V_aload_n C 0 dX12_nobody_7 rfl rfl ?_
    refine G_X12_s (q := 172) C sk_172 q_FL_X12_7 dX12_nobody_8 ?_
    refine V_iconst C dX12_nobody_11 kc_i_0 ?_
    refine W_ialdc (q := 173) C sk_173 (j := 0) tn_0 (by decide) dX12_nobody_12 ?_
    refine V_icmp_ge C dX12_nobody_13 rfl (fun c1 => ?_) (fun c1 => ?_)
    · replace h := ifp c1 h
      refine V_lload_n C 3 dX12_nobody_89 rfl rfl ?_
      exact V_lret C X dX12_nobody_90 ⟨rlp_1 h, rfl⟩
    · replace h := ifn c1 h
      refine V_aload_n C 0 dX12_nobody_16 rfl rfl ?_
      refine V_iload C 4 dX12_nobody_17 rfl ?_
      refine V_iload_n C 1 dX12_nobody_19 rfl rfl ?_
      obtain ⟨a3, e2, h⟩ := bnd_s h
      refine W_callvi C cf_X12_valueTo (c_X12_valueTo e2) q_ML_X12_73 (ws_X12 sk_172) rfl dX12_nobody_20 (by decide) rfl rfl (Nat.le_of_ble_eq_true rfl) ?_
      refine V_iload_n C 2 dX12_nobody_23 rfl rfl ?_
      refine V_icmp_le C dX12_nobody_24 rfl (fun c4 => ?_) (fun c4 => ?_)
      · replace h := ifp c4 h
        refine V_iconst C dX12_nobody_31 kc_i_0 ?_
        exact v_X12_nobody_32 C X ih h
      · replace h := ifn c4 h
        refine V_iconst C dX12_nobody_27 kc_i_1 ?_
        refine V_goto C dX12_nobody_28 rfl ?_
        exact v_X12_nobody_32 C X ih h
def f_X12_nobody (N : Nat) (S : St) (v1 : Int32) (v2 : Int32) : Option Int64 :=
 f_X12_nobody_5 N S N v1 v2 (1 : Int64) (0 : Int32)
set_option maxRecDepth 20000 in
theorem v_X12_nobody_e {ε : eT} {κ : kT} {N : Nat} (C : Act ε κ cX12_nobody 7 RX12 3) {S : St} {res : Int64} (X : RI ε κ (some .long) (some (.long res)) S) {v1 : Int32} {v2 : Int32} (h : f_X12_nobody N S v1 v2 = some res) : V ε κ 7 0 [(0, .ref (eA ε 172)), (1, .int v1), (2, .int v2)] [] (wsOf ε S) 0 0 := by
  unfold f_X12_nobody at h
  refine V_lconst C dX12_nobody_0 kc_l_1 ?_
  refine V_lstore_n (lv' := [(3, .long (1 : Int64)), (0, .ref (eA ε 172)), (1, .int v1), (2, .int v2)]) C dX12_nobody_1 rfl (by decide) rfl ?_
  refine V_iconst C dX12_nobody_2 kc_i_0 ?_
  refine V_istore (lv' := [(5, .int (0 : Int32)), (3, .long (1 : Int64)), (0, .ref (eA ε 172)), (1, .int v1), (2, .int v2)]) C dX12_nobody_3 (by decide) rfl ?_
  refine V_sub C [2, 3, 4, 1, 0] rfl ?_
  exact v_X12_nobody_5 C X N _ _ _ _ h
theorem c_X12_nobody {ε : eT} {N : Nat} {S : St} {v1 : Int32} {v2 : Int32} {res : Int64} (h : f_X12_nobody N S v1 v2 = some res) : CI ε yX12_nobody cX12_nobody 7 (some .long) 3 [.ref (eA ε 172), .int v1, .int v2] S (some (.long res)) S := CI_of (by decide) (Nat.le_of_ble_eq_true rfl) rfl (fun κ C X => v_X12_nobody_e C X h)
def f_X12_gainOf (N : Nat) (S : St) (v1 : Int32) (v2 : Int32) (v3 : Int32) : Option Int64 :=
 bnd (f_X12_allBelow N S v1) (fun a2 =>
 bnd (f_X12_nobody N S v1 v2) (fun a4 =>
 bnd (f_X12_owner S v1) (fun a6 =>
 bnd (f_X12_valueTo S a6 v1) (fun a8 =>
 some (((100 : Int64) * (((a2 - a4) * (v2).toInt64) + (a4 * ((a8).toInt64)))) - (((v3 * v2)).toInt64 * a2))))))
set_option maxRecDepth 20000 in
theorem v_X12_gainOf_e {ε : eT} {κ : kT} {N : Nat} (C : Act ε κ cX12_gainOf 10 RX12 4) {S : St} {res : Int64} (X : RI ε κ (some .long) (some (.long res)) S) {v1 : Int32} {v2 : Int32} {v3 : Int32} (h : f_X12_gainOf N S v1 v2 v3 = some res) : V ε κ 10 0 [(0, .ref (eA ε 172)), (1, .int v1), (2, .int v2), (3, .int v3)] [] (wsOf ε S) 0 0 := by
  unfold f_X12_gainOf at h
  refine V_aload_n C 0 dX12_gainOf_0 rfl rfl ?_
  refine V_iload_n C 1 dX12_gainOf_1 rfl rfl ?_
  obtain ⟨a2, e1, h⟩ := bnd_s h
  refine W_callvl C cf_X12_allBelow (c_X12_allBelow e1) q_ML_X12_207 (ws_X12 sk_172) rfl dX12_gainOf_2 (by decide) rfl rfl (Nat.le_of_ble_eq_true rfl) ?_
  refine V_lstore (lv' := [(4, .long a2), (0, .ref (eA ε 172)), (1, .int v1), (2, .int v2), (3, .int v3)]) C dX12_gainOf_5 (by decide) rfl ?_
  refine V_aload_n C 1 dX12_gainOf_7 rfl rfl ?_
  refine V_iload_n C 2 dX12_gainOf_8 rfl rfl ?_
  refine V_iload_n C 3 dX12_gainOf_9 rfl rfl ?_
  obtain ⟨a4, e3, h⟩ := bnd_s h
  refine W_callvl C cf_X12_nobody (c_X12_nobody e3) q_ML_X12_211 (ws_X12 sk_172) rfl dX12_gainOf_10 (by decide) rfl rfl (Nat.le_of_ble_eq_true rfl) ?_
  refine V_lstore (lv' := [(6, .long a4), (4, .long a2), (0, .ref (eA ε 172)), (1, .int v1), (2, .int v2), (3, .int v3)]) C dX12_gainOf_13 (by decide) rfl ?_
  refine V_aload_n C 2 dX12_gainOf_15 rfl rfl ?_
  refine V_aload_n C 2 dX12_gainOf_16 rfl rfl ?_
  refine V_iload_n C 3 dX12_gainOf_17 rfl rfl ?_
  obtain ⟨a6, e5, h⟩ := bnd_s h
  refine W_callvi C cf_X12_owner (c_X12_owner e5) q_ML_X12_67 (ws_X12 sk_172) rfl dX12_gainOf_18 (by decide) rfl rfl (Nat.le_of_ble_eq_true rfl) ?_
  refine V_iload_n C 3 dX12_gainOf_21 rfl rfl ?_
  obtain ⟨a8, e7, h⟩ := bnd_s h
  refine W_callvi C cf_X12_valueTo (c_X12_valueTo e7) q_ML_X12_73 (ws_X12 sk_172) rfl dX12_gainOf_22 (by decide) rfl rfl (Nat.le_of_ble_eq_true rfl) ?_
  refine V_i2l C dX12_gainOf_25 ?_
  refine V_lstore (lv' := [(8, .long ((a8).toInt64)), (6, .long a4), (4, .long a2), (0, .ref (eA ε 172)), (1, .int v1), (2, .int v2), (3, .int v3)]) C dX12_gainOf_26 (by decide) rfl ?_
  refine V_ldc2 C q_KL_X12_215 dX12_gainOf_28 ?_
  refine V_lload C 2 dX12_gainOf_31 rfl ?_
  refine V_lload C 1 dX12_gainOf_33 rfl ?_
  refine V_lsub C dX12_gainOf_35 ?_
  refine V_iload_n C 5 dX12_gainOf_36 rfl rfl ?_
  refine V_i2l C dX12_gainOf_37 ?_
  refine V_lmul C dX12_gainOf_38 ?_
  refine V_lload C 1 dX12_gainOf_39 rfl ?_
  refine V_lload C 0 dX12_gainOf_41 rfl ?_
  refine V_lmul C dX12_gainOf_43 ?_
  refine V_ladd C dX12_gainOf_44 ?_
  refine V_lmul C dX12_gainOf_45 ?_
  refine V_iload_n C 6 dX12_gainOf_46 rfl rfl ?_
  refine V_iload_n C 5 dX12_gainOf_47 rfl rfl ?_
  refine V_imul C dX12_gainOf_48 ?_
  refine V_i2l C dX12_gainOf_49 ?_
  refine V_lload C 2 dX12_gainOf_50 rfl ?_
  refine V_lmul C dX12_gainOf_52 ?_
  refine V_lsub C dX12_gainOf_53 ?_
  exact V_lret C X dX12_gainOf_54 ⟨rlp_1 h, rfl⟩
theorem c_X12_gainOf {ε : eT} {N : Nat} {S : St} {v1 : Int32} {v2 : Int32} {v3 : Int32} {res : Int64} (h : f_X12_gainOf N S v1 v2 v3 = some res) : CI ε yX12_gainOf cX12_gainOf 10 (some .long) 4 [.ref (eA ε 172), .int v1, .int v2, .int v3] S (some (.long res)) S := CI_of (by decide) (Nat.le_of_ble_eq_true rfl) rfl (fun κ C X => v_X12_gainOf_e C X h)
def f_X12_better_54 (N : Nat) (S : St) (v3 : Int32) : Option Int32 :=
 some v3
set_option maxRecDepth 20000 in
theorem v_X12_better_54 {ε : eT} {κ : kT} {N : Nat} (C : Act ε κ cX12_better 9 RX12 5) {S : St} {res : Int32} (X : RI ε κ (some .int) (some (.int res)) S) {v3 : Int32} (h : f_X12_better_54 N S v3 = some res) : V ε κ 9 54 [(3, .int v3)] [] (wsOf ε S) 0 0 := by
  unfold f_X12_better_54 at h
  refine V_iload_n C 0 dX12_better_54 rfl rfl ?_
  refine V_goto C dX12_better_55 rfl ?_
  exact V_iret C X dX12_better_59 ⟨rip_1 h, rfl⟩
def f_X12_better (N : Nat) (S : St) (v1 : Int32) (v2 : Int32) (v3 : Int32) (v4 : Int32) : Option Int32 :=
 bnd (f_X12_in S v3 (0 : Int32) (9999 : Int32)) (fun a2 =>
 (if a2 = 0 then
 some v2
 else
 bnd (f_X12_gainOf N S v1 v3 v4) (fun a5 =>
 bnd (f_X12_gainOf N S v1 v2 v4) (fun a7 =>
 (if 0 < (lg_cmp a5 a7) then
 f_X12_better_54 N S v3
 else
 (if (lg_cmp a5 a7) = 0 then
 (if v2 ≤ v3 then
 some v2
 else
 f_X12_better_54 N S v3)
 else
 some v2))))))
set_option maxRecDepth 20000 in
theorem v_X12_better_e {ε : eT} {κ : kT} {N : Nat} (C : Act ε κ cX12_better 9 RX12 5) {S : St} {res : Int32} (X : RI ε κ (some .int) (some (.int res)) S) {v1 : Int32} {v2 : Int32} {v3 : Int32} {v4 : Int32} (h : f_X12_better N S v1 v2 v3 v4 = some res) : V ε κ 9 0 [(0, .ref (eA ε 172)), (1, .int v1), (2, .int v2), (3, .int v3), (4, .int v4)] [] (wsOf ε S) 0 0 := by
  unfold f_X12_better at h
  refine V_iload_n C 3 dX12_better_0 rfl rfl ?_
  refine V_iconst C dX12_better_1 kc_i_0 ?_
  refine V_sipush C dX12_better_2 kc_s_9999 ?_
  obtain ⟨a2, e1, h⟩ := bnd_s h
  refine W_callsi C cf_X12_in (c_X12_in e1) q_ML_X12_47 dX12_better_5 (by decide) rfl rfl (Nat.le_of_ble_eq_true rfl) ?_
  refine V_if_ne C dX12_better_8 rfl (fun c3 => ?_) (fun c3 => ?_)
  · replace h := ifn c3 h
    refine V_aload_n C 0 dX12_better_13 rfl rfl ?_
    refine V_iload_n C 1 dX12_better_14 rfl rfl ?_
    refine V_iload_n C 3 dX12_better_15 rfl rfl ?_
    refine V_iload C 4 dX12_better_16 rfl ?_
    obtain ⟨a5, e4, h⟩ := bnd_s h
    refine W_callvl C cf_X12_gainOf (c_X12_gainOf e4) q_ML_X12_224 (ws_X12 sk_172) rfl dX12_better_18 (by decide) rfl rfl (Nat.le_of_ble_eq_true rfl) ?_
    refine V_lstore (lv' := [(5, .long a5), (0, .ref (eA ε 172)), (1, .int v1), (2, .int v2), (3, .int v3), (4, .int v4)]) C dX12_better_21 (by decide) rfl ?_
    refine V_aload_n C 1 dX12_better_23 rfl rfl ?_
    refine V_iload_n C 2 dX12_better_24 rfl rfl ?_
    refine V_iload_n C 3 dX12_better_25 rfl rfl ?_
    refine V_iload C 5 dX12_better_26 rfl ?_
    obtain ⟨a7, e6, h⟩ := bnd_s h
    refine W_callvl C cf_X12_gainOf (c_X12_gainOf e6) q_ML_X12_224 (ws_X12 sk_172) rfl dX12_better_28 (by decide) rfl rfl (Nat.le_of_ble_eq_true rfl) ?_
    refine V_lstore (lv' := [(7, .long a7), (5, .long a5), (0, .ref (eA ε 172)), (1, .int v1), (2, .int v2), (3, .int v3), (4, .int v4)]) C dX12_better_31 (by decide) rfl ?_
    refine V_lload C 1 dX12_better_33 rfl ?_
    refine V_lload C 0 dX12_better_35 rfl ?_
    refine V_lcmp C dX12_better_37 ?_
    refine V_if_gt C dX12_better_38 rfl (fun c8 => ?_) (fun c8 => ?_)
    · replace h := ifp c8 h
      refine V_sub C [5] rfl ?_
      exact v_X12_better_54 C X h
    · replace h := ifn c8 h
      refine V_lload C 1 dX12_better_41 rfl ?_
      refine V_lload C 0 dX12_better_43 rfl ?_
      refine V_lcmp C dX12_better_45 ?_
      refine V_if_ne C dX12_better_46 rfl (fun c9 => ?_) (fun c9 => ?_)
      · replace h := ifn c9 h
        refine V_iload_n C 4 dX12_better_58 rfl rfl ?_
        exact V_iret C X dX12_better_59 ⟨rip_1 h, rfl⟩
      · replace h := ifp c9 h
        refine V_iload_n C 5 dX12_better_49 rfl rfl ?_
        refine V_iload_n C 4 dX12_better_50 rfl rfl ?_
        refine V_icmp_ge C dX12_better_51 rfl (fun c10 => ?_) (fun c10 => ?_)
        · replace h := ifp c10 h
          refine V_iload_n C 4 dX12_better_58 rfl rfl ?_
          exact V_iret C X dX12_better_59 ⟨rip_1 h, rfl⟩
        · replace h := ifn c10 h
          refine V_sub C [5] rfl ?_
          exact v_X12_better_54 C X h
  · replace h := ifp c3 h
    refine V_iload_n C 2 dX12_better_11 rfl rfl ?_
    exact V_iret C X dX12_better_12 ⟨rip_1 h, rfl⟩
theorem c_X12_better {ε : eT} {N : Nat} {S : St} {v1 : Int32} {v2 : Int32} {v3 : Int32} {v4 : Int32} {res : Int32} (h : f_X12_better N S v1 v2 v3 v4 = some res) : CI ε yX12_better cX12_better 9 (some .int) 5 [.ref (eA ε 172), .int v1, .int v2, .int v3, .int v4] S (some (.int res)) S := CI_of (by decide) (Nat.le_of_ble_eq_true rfl) rfl (fun κ C X => v_X12_better_e C X h)
def f_X12_bestWith_67 (N : Nat) (S : St) (K14 : Int32 → Int32 → Int32 → Int32 → Option Int32) (v1 : Int32) (v2 : Int32) (v3 : Int32) (v4 : Int32) : Option Int32 :=
 K14 v1 v2 v3 (v4 + 1)
set_option maxRecDepth 20000 in
theorem v_X12_bestWith_67 {ε : eT} {κ : kT} {N : Nat} (C : Act ε κ cX12_bestWith 5 RX12 6) {S : St} {res : Int32} (X : RI ε κ (some .int) (some (.int res)) S) {K14 : Int32 → Int32 → Int32 → Int32 → Option Int32} (hK14 : ∀ (v1 : Int32) (v2 : Int32) (v3 : Int32) (v4 : Int32), K14 v1 v2 v3 v4 = some res → V ε κ 5 14 [(0, .ref (eA ε 172)), (1, .int v1), (2, .int v2), (3, .int v3), (4, .int v4)] [] (wsOf ε S) 0 0) {v1 : Int32} {v2 : Int32} {v3 : Int32} {v4 : Int32} (h : f_X12_bestWith_67 N S K14 v1 v2 v3 v4 = some res) : V ε κ 5 67 [(0, .ref (eA ε 172)), (1, .int v1), (2, .int v2), (3, .int v3), (4, .int v4)] [] (wsOf ε S) 0 0 := by
  unfold f_X12_bestWith_67 at h
  refine V_iinc (v := (v4 + 1)) (lv' := [(4, .int (v4 + 1)), (0, .ref (eA ε 172)), (1, .int v1), (2, .int v2), (3, .int v3)]) C 4 dX12_bestWith_67 rfl (congrArg _ kc_i_1) (by decide) rfl ?_
  refine V_goto C dX12_bestWith_70 rfl ?_
  refine V_sub C [1, 2, 3, 4, 0] rfl ?_
  exact hK14 _ _ _ _ h
def f_X12_bestWith_14 (N : Nat) (S : St) : Nat → Int32 → Int32 → Int32 → Int32 → Option Int32
  | 0, _, _, _, _ => none
  | n + 1, v1, v2, v3, v4 =>
    (if (S.1 173 0) ≤ v4 then
     some v3
     else
     bnd (f_X12_owner S v1) (fun a3 =>
     (if v4 = a3 then
     f_X12_bestWith_67 N S (f_X12_bestWith_14 N S n) v1 v2 v3 v4
     else
     bnd (f_X12_valueTo S v4 v1) (fun a6 =>
     bnd (f_X12_better N S v1 v3 a6 v2) (fun a8 =>
     bnd (f_X12_valueTo S v4 v1) (fun a10 =>
     bnd (f_X12_better N S v1 a8 (a10 - (1 : Int32)) v2) (fun a12 =>
     f_X12_bestWith_67 N S (f_X12_bestWith_14 N S n) v1 v2 a12 v4)))))))
set_option maxRecDepth 20000 in
theorem v_X12_bestWith_14 {ε : eT} {κ : kT} {N : Nat} (C : Act ε κ cX12_bestWith 5 RX12 6) {S : St} {res : Int32} (X : RI ε κ (some .int) (some (.int res)) S) : ∀ (n : Nat) (v1 : Int32) (v2 : Int32) (v3 : Int32) (v4 : Int32) (h : f_X12_bestWith_14 N S n v1 v2 v3 v4 = some res), V ε κ 5 14 [(0, .ref (eA ε 172)), (1, .int v1), (2, .int v2), (3, .int v3), (4, .int v4)] [] (wsOf ε S) 0 0 := by
  intro n
  induction n with
  | zero => intro v1 v2 v3 v4 h; cases h
  | succ n ih =>
    intro v1 v2 v3 v4 h
    rw [f_X12_bestWith_14] at h
    refine V_iload C 4 dX12_bestWith_14 rfl ?_
    refine V_aload_n C 0 dX12_bestWith_16 rfl rfl ?_
    refine G_X12_s (q := 172) C sk_172 q_FL_X12_7 dX12_bestWith_17 ?_
    refine V_iconst C dX12_bestWith_20 kc_i_0 ?_
    refine W_ialdc (q := 173) C sk_173 (j := 0) tn_0 (by decide) dX12_bestWith_21 ?_
    refine V_icmp_ge C dX12_bestWith_22 rfl (fun c1 => ?_) (fun c1 => ?_)
    · replace h := ifp c1 h
      refine V_iload_n C 3 dX12_bestWith_73 rfl rfl ?_
      exact V_iret C X dX12_bestWith_74 ⟨rip_1 h, rfl⟩
    · replace h := ifn c1 h
      refine V_iload C 4 dX12_bestWith_25 rfl ?_
      refine V_aload_n C 0 dX12_bestWith_27 rfl rfl ?_
      refine V_iload_n C 1 dX12_bestWith_28 rfl rfl ?_
      obtain ⟨a3, e2, h⟩ := bnd_s h
      refine W_callvi C cf_X12_owner (c_X12_owner e2) q_ML_X12_67 (ws_X12 sk_172) rfl dX12_bestWith_29 (by decide) rfl rfl (Nat.le_of_ble_eq_true rfl) ?_
      refine V_icmp_eq C dX12_bestWith_32 rfl (fun c4 => ?_) (fun c4 => ?_)
      · replace h := ifp c4 h
        exact v_X12_bestWith_67 C X ih h
      · replace h := ifn c4 h
        refine V_aload_n C 0 dX12_bestWith_35 rfl rfl ?_
        refine V_iload_n C 1 dX12_bestWith_36 rfl rfl ?_
        refine V_iload_n C 3 dX12_bestWith_37 rfl rfl ?_
        refine V_aload_n C 0 dX12_bestWith_38 rfl rfl ?_
        refine V_iload C 4 dX12_bestWith_39 rfl ?_
        refine V_iload_n C 1 dX12_bestWith_41 rfl rfl ?_
        obtain ⟨a6, e5, h⟩ := bnd_s h
        refine W_callvi C cf_X12_valueTo (c_X12_valueTo e5) q_ML_X12_73 (ws_X12 sk_172) rfl dX12_bestWith_42 (by decide) rfl rfl (Nat.le_of_ble_eq_true rfl) ?_
        refine V_iload_n C 2 dX12_bestWith_45 rfl rfl ?_
        obtain ⟨a8, e7, h⟩ := bnd_s h
        refine W_callvi C cf_X12_better (c_X12_better e7) q_ML_X12_228 (ws_X12 sk_172) rfl dX12_bestWith_46 (by decide) rfl rfl (Nat.le_of_ble_eq_true rfl) ?_
        refine V_istore_n (lv' := [(3, .int a8), (0, .ref (eA ε 172)), (1, .int v1), (2, .int v2), (4, .int v4)]) C dX12_bestWith_49 rfl (by decide) rfl ?_
        refine V_aload_n C 1 dX12_bestWith_50 rfl rfl ?_
        refine V_iload_n C 2 dX12_bestWith_51 rfl rfl ?_
        refine V_iload_n C 0 dX12_bestWith_52 rfl rfl ?_
        refine V_aload_n C 1 dX12_bestWith_53 rfl rfl ?_
        refine V_iload C 4 dX12_bestWith_54 rfl ?_
        refine V_iload_n C 2 dX12_bestWith_56 rfl rfl ?_
        obtain ⟨a10, e9, h⟩ := bnd_s h
        refine W_callvi C cf_X12_valueTo (c_X12_valueTo e9) q_ML_X12_73 (ws_X12 sk_172) rfl dX12_bestWith_57 (by decide) rfl rfl (Nat.le_of_ble_eq_true rfl) ?_
        refine V_iconst C dX12_bestWith_60 kc_i_1 ?_
        refine V_isub C dX12_bestWith_61 ?_
        refine V_iload_n C 3 dX12_bestWith_62 rfl rfl ?_
        obtain ⟨a12, e11, h⟩ := bnd_s h
        refine W_callvi C cf_X12_better (c_X12_better e11) q_ML_X12_228 (ws_X12 sk_172) rfl dX12_bestWith_63 (by decide) rfl rfl (Nat.le_of_ble_eq_true rfl) ?_
        refine V_istore_n (lv' := [(3, .int a12), (0, .ref (eA ε 172)), (1, .int v1), (2, .int v2), (4, .int v4)]) C dX12_bestWith_66 rfl (by decide) rfl ?_
        refine V_sub C [1, 2, 3, 0, 4] rfl ?_
        exact v_X12_bestWith_67 C X ih h
def f_X12_bestWith (N : Nat) (S : St) (v1 : Int32) (v2 : Int32) : Option Int32 :=
 bnd (f_X12_better N S v1 (0 : Int32) (9999 : Int32) v2) (fun a2 =>
 f_X12_bestWith_14 N S N v1 v2 a2 (0 : Int32))
set_option maxRecDepth 20000 in
theorem v_X12_bestWith_e {ε : eT} {κ : kT} {N : Nat} (C : Act ε κ cX12_bestWith 5 RX12 6) {S : St} {res : Int32} (X : RI ε κ (some .int) (some (.int res)) S) {v1 : Int32} {v2 : Int32} (h : f_X12_bestWith N S v1 v2 = some res) : V ε κ 5 0 [(0, .ref (eA ε 172)), (1, .int v1), (2, .int v2)] [] (wsOf ε S) 0 0 := by
  unfold f_X12_bestWith at h
  refine V_aload_n C 0 dX12_bestWith_0 rfl rfl ?_
  refine V_iload_n C 1 dX12_bestWith_1 rfl rfl ?_
  refine V_iconst C dX12_bestWith_2 kc_i_0 ?_
  refine V_sipush C dX12_bestWith_3 kc_s_9999 ?_
  refine V_iload_n C 2 dX12_bestWith_6 rfl rfl ?_
  obtain ⟨a2, e1, h⟩ := bnd_s h
  refine W_callvi C cf_X12_better (c_X12_better e1) q_ML_X12_228 (ws_X12 sk_172) rfl dX12_bestWith_7 (by decide) rfl rfl (Nat.le_of_ble_eq_true rfl) ?_
  refine V_istore_n (lv' := [(3, .int a2), (0, .ref (eA ε 172)), (1, .int v1), (2, .int v2)]) C dX12_bestWith_10 rfl (by decide) rfl ?_
  refine V_iconst C dX12_bestWith_11 kc_i_0 ?_
  refine V_istore (lv' := [(4, .int (0 : Int32)), (3, .int a2), (0, .ref (eA ε 172)), (1, .int v1), (2, .int v2)]) C dX12_bestWith_12 (by decide) rfl ?_
  refine V_sub C [2, 3, 4, 1, 0] rfl ?_
  exact v_X12_bestWith_14 C X N _ _ _ _ h
theorem c_X12_bestWith {ε : eT} {N : Nat} {S : St} {v1 : Int32} {v2 : Int32} {res : Int32} (h : f_X12_bestWith N S v1 v2 = some res) : CI ε yX12_bestWith cX12_bestWith 5 (some .int) 6 [.ref (eA ε 172), .int v1, .int v2] S (some (.int res)) S := CI_of (by decide) (Nat.le_of_ble_eq_true rfl) rfl (fun κ C X => v_X12_bestWith_e C X h)
def f_X12_bestOf (N : Nat) (S : St) (v1 : Int32) : Option Int32 :=
 bnd (f_X12_bestWith N S v1 (S.1 173 10)) (fun a2 =>
 some a2)
set_option maxRecDepth 20000 in
theorem v_X12_bestOf_e {ε : eT} {κ : kT} {N : Nat} (C : Act ε κ cX12_bestOf 2 RX12 7) {S : St} {res : Int32} (X : RI ε κ (some .int) (some (.int res)) S) {v1 : Int32} (h : f_X12_bestOf N S v1 = some res) : V ε κ 2 0 [(0, .ref (eA ε 172)), (1, .int v1)] [] (wsOf ε S) 0 0 := by
  unfold f_X12_bestOf at h
  refine V_aload_n C 0 dX12_bestOf_0 rfl rfl ?_
  refine V_iload_n C 1 dX12_bestOf_1 rfl rfl ?_
  refine V_aload_n C 0 dX12_bestOf_2 rfl rfl ?_
  refine G_X12_s (q := 172) C sk_172 q_FL_X12_7 dX12_bestOf_3 ?_
  refine V_bipush C dX12_bestOf_6 kc_b_10 ?_
  refine W_ialdc (q := 173) C sk_173 (j := 10) tn_10 (by decide) dX12_bestOf_8 ?_
  obtain ⟨a2, e1, h⟩ := bnd_s h
  refine W_callvi C cf_X12_bestWith (c_X12_bestWith e1) q_ML_X12_232 (ws_X12 sk_172) rfl dX12_bestOf_9 (by decide) rfl rfl (Nat.le_of_ble_eq_true rfl) ?_
  exact V_iret C X dX12_bestOf_12 ⟨rip_1 h, rfl⟩
theorem c_X12_bestOf {ε : eT} {N : Nat} {S : St} {v1 : Int32} {res : Int32} (h : f_X12_bestOf N S v1 = some res) : CI ε yX12_bestOf cX12_bestOf 2 (some .int) 7 [.ref (eA ε 172), .int v1] S (some (.int res)) S := CI_of (by decide) (Nat.le_of_ble_eq_true rfl) rfl (fun κ C X => v_X12_bestOf_e C X h)
def f_X12_best (N : Nat) (S : St) (v1 : Int32) : Option (Int32 × St) :=
 bnd (f_X12_isThing S v1) (fun a2 =>
 (if a2 = 0 then
 bnd2 (f_X12_error S (1 : Int32)) (fun a5 S6 =>
 some (a5, S6))
 else
 bnd (f_X12_bestOf N S v1) (fun a8 =>
 some (a8, S))))
set_option maxRecDepth 20000 in
theorem v_X12_best_e {ε : eT} {κ : kT} {N : Nat} (C : Act ε κ cX12_best 2 RX12 8) {S : St} {res : (Int32 × St)} (X : RI ε κ (some .int) (some (.int res.1)) res.2) {v1 : Int32} (h : f_X12_best N S v1 = some res) : V ε κ 2 0 [(0, .ref (eA ε 172)), (1, .int v1)] [] (wsOf ε S) 0 0 := by
  unfold f_X12_best at h
  refine V_aload_n C 0 dX12_best_0 rfl rfl ?_
  refine V_iload_n C 1 dX12_best_1 rfl rfl ?_
  obtain ⟨a2, e1, h⟩ := bnd_s h
  refine W_callvi C cf_X12_isThing (c_X12_isThing e1) q_ML_X12_92 (ws_X12 sk_172) rfl dX12_best_2 (by decide) rfl rfl (Nat.le_of_ble_eq_true rfl) ?_
  refine V_if_eq C dX12_best_5 rfl (fun c3 => ?_) (fun c3 => ?_)
  · replace h := ifp c3 h
    refine V_aload_n C 0 dX12_best_16 rfl rfl ?_
    refine V_iconst C dX12_best_17 kc_i_1 ?_
    obtain ⟨a5, S6, e4, h⟩ := bnd2_s h
    refine W_callvi C cf_X12_error (c_X12_error e4) q_ML_X12_60 (ws_X12 sk_172) rfl dX12_best_18 (by decide) rfl rfl (Nat.le_of_ble_eq_true rfl) ?_
    exact V_iret C X dX12_best_21 ⟨ri_1 h, ri_2 h⟩
  · replace h := ifn c3 h
    refine V_aload_n C 0 dX12_best_8 rfl rfl ?_
    refine V_iload_n C 1 dX12_best_9 rfl rfl ?_
    obtain ⟨a8, e7, h⟩ := bnd_s h
    refine W_callvi C cf_X12_bestOf (c_X12_bestOf e7) q_ML_X12_165 (ws_X12 sk_172) rfl dX12_best_10 (by decide) rfl rfl (Nat.le_of_ble_eq_true rfl) ?_
    refine V_goto C dX12_best_13 rfl ?_
    exact V_iret C X dX12_best_21 ⟨ri_1 h, ri_2 h⟩
theorem c_X12_best {ε : eT} {N : Nat} {S : St} {v1 : Int32} {res : (Int32 × St)} (h : f_X12_best N S v1 = some res) : CI ε yX12_best cX12_best 2 (some .int) 8 [.ref (eA ε 172), .int v1] S (some (.int res.1)) res.2 := CI_of (by decide) (Nat.le_of_ble_eq_true rfl) rfl (fun κ C X => v_X12_best_e C X h)
def f_X12_body (S : St) (v1 : Int32) : Option (Int32 × St) :=
 bnd (f_X12_in S v1 (0 : Int32) ((S.1 172 13) - (1 : Int32))) (fun a2 =>
 (if a2 = 0 then
 bnd2 (f_X12_error S (2 : Int32)) (fun a5 S6 =>
 some (a5, S6))
 else
 (if inb v1 30 = true then
 some ((S.1 180 v1.toNatClampNeg), S)
 else none)))
set_option maxRecDepth 20000 in
theorem v_X12_body_e {ε : eT} {κ : kT} (C : Act ε κ cX12_body 2 RX12 2) {S : St} {res : (Int32 × St)} (X : RI ε κ (some .int) (some (.int res.1)) res.2) {v1 : Int32} (h : f_X12_body S v1 = some res) : V ε κ 2 0 [(0, .ref (eA ε 172)), (1, .int v1)] [] (wsOf ε S) 0 0 := by
  unfold f_X12_body at h
  refine V_iload_n C 1 dX12_body_0 rfl rfl ?_
  refine V_iconst C dX12_body_1 kc_i_0 ?_
  refine V_aload_n C 0 dX12_body_2 rfl rfl ?_
  refine G_X12_traced (q := 172) C sk_172 q_FL_X12_245 dX12_body_3 ?_
  refine V_iconst C dX12_body_6 kc_i_1 ?_
  refine V_isub C dX12_body_7 ?_
  obtain ⟨a2, e1, h⟩ := bnd_s h
  refine W_callsi C cf_X12_in (c_X12_in e1) q_ML_X12_47 dX12_body_8 (by decide) rfl rfl (Nat.le_of_ble_eq_true rfl) ?_
  refine V_if_eq C dX12_body_11 rfl (fun c3 => ?_) (fun c3 => ?_)
  · replace h := ifp c3 h
    refine V_aload_n C 0 dX12_body_23 rfl rfl ?_
    refine V_iconst C dX12_body_24 kc_i_2 ?_
    obtain ⟨a5, S6, e4, h⟩ := bnd2_s h
    refine W_callvi C cf_X12_error (c_X12_error e4) q_ML_X12_60 (ws_X12 sk_172) rfl dX12_body_25 (by decide) rfl rfl (Nat.le_of_ble_eq_true rfl) ?_
    exact V_iret C X dX12_body_28 ⟨ri_1 h, ri_2 h⟩
  · replace h := ifn c3 h
    refine V_aload_n C 0 dX12_body_14 rfl rfl ?_
    refine G_X12_trace (q := 172) C sk_172 q_FL_X12_31 dX12_body_15 ?_
    refine V_iload_n C 1 dX12_body_18 rfl rfl ?_
    obtain ⟨g7, h⟩ := gdt h
    refine W_iald (q := 180) C sk_180 g7 dX12_body_19 ?_
    refine V_goto C dX12_body_20 rfl ?_
    exact V_iret C X dX12_body_28 ⟨ri_1 h, ri_2 h⟩
theorem c_X12_body {ε : eT} {S : St} {v1 : Int32} {res : (Int32 × St)} (h : f_X12_body S v1 = some res) : CI ε yX12_body cX12_body 2 (some .int) 2 [.ref (eA ε 172), .int v1] S (some (.int res.1)) res.2 := CI_of (by decide) (Nat.le_of_ble_eq_true rfl) rfl (fun κ C X => v_X12_body_e C X h)
def f_X12_look (S : St) : Option Int32 :=
 (if (S.1 173 6) ≤ (S.1 172 5) then
 some (-1 : Int32)
 else
 (if inb ((432 : Int32) + (S.1 172 5)) 516 = true then
 some (S.1 173 ((432 : Int32) + (S.1 172 5)).toNatClampNeg)
 else none))
set_option maxRecDepth 20000 in
theorem v_X12_look_e {ε : eT} {κ : kT} (C : Act ε κ cX12_look 1 RX12 1) {S : St} {res : Int32} (X : RI ε κ (some .int) (some (.int res)) S) (h : f_X12_look S = some res) : V ε κ 1 0 [(0, .ref (eA ε 172))] [] (wsOf ε S) 0 0 := by
  unfold f_X12_look at h
  refine V_aload_n C 0 dX12_look_0 rfl rfl ?_
  refine G_X12_at (q := 172) C sk_172 q_FL_X12_106 dX12_look_1 ?_
  refine V_aload_n C 0 dX12_look_4 rfl rfl ?_
  refine G_X12_s (q := 172) C sk_172 q_FL_X12_7 dX12_look_5 ?_
  refine V_bipush C dX12_look_8 kc_b_6 ?_
  refine W_ialdc (q := 173) C sk_173 (j := 6) tn_6 (by decide) dX12_look_10 ?_
  refine V_icmp_ge C dX12_look_11 rfl (fun c1 => ?_) (fun c1 => ?_)
  · replace h := ifp c1 h
    refine V_iconst C dX12_look_30 kc_i_m1 ?_
    exact V_iret C X dX12_look_31 ⟨rip_1 h, rfl⟩
  · replace h := ifn c1 h
    refine V_aload_n C 0 dX12_look_14 rfl rfl ?_
    refine G_X12_s (q := 172) C sk_172 q_FL_X12_7 dX12_look_15 ?_
    refine V_sipush C dX12_look_18 kc_s_432 ?_
    refine V_aload_n C 0 dX12_look_21 rfl rfl ?_
    refine G_X12_at (q := 172) C sk_172 q_FL_X12_106 dX12_look_22 ?_
    refine V_iadd C dX12_look_25 ?_
    obtain ⟨g2, h⟩ := gdt h
    refine W_iald (q := 173) C sk_173 g2 dX12_look_26 ?_
    refine V_goto C dX12_look_27 rfl ?_
    exact V_iret C X dX12_look_31 ⟨rip_1 h, rfl⟩
theorem c_X12_look {ε : eT} {S : St} {res : Int32} (h : f_X12_look S = some res) : CI ε yX12_look cX12_look 1 (some .int) 1 [.ref (eA ε 172)] S (some (.int res)) S := CI_of (by decide) (Nat.le_of_ble_eq_true rfl) rfl (fun κ C X => v_X12_look_e C X h)
def f_X12_lays (S : St) (v1 : Int32) (v2 : Int32) : Option St :=
 (if inb ((2 : Int32) * (S.1 172 7)) 124 = true then
 (if inb (((2 : Int32) * ((pt S 177 ((2 : Int32) * (S.1 172 7)).toNatClampNeg v1).1 172 7)) + (1 : Int32)) 124 = true then
 some (pt (pt (pt S 177 ((2 : Int32) * (S.1 172 7)).toNatClampNeg v1) 177 (((2 : Int32) * ((pt S 177 ((2 : Int32) * (S.1 172 7)).toNatClampNeg v1).1 172 7)) + (1 : Int32)).toNatClampNeg v2) 172 7 (((pt (pt S 177 ((2 : Int32) * (S.1 172 7)).toNatClampNeg v1) 177 (((2 : Int32) * ((pt S 177 ((2 : Int32) * (S.1 172 7)).toNatClampNeg v1).1 172 7)) + (1 : Int32)).toNatClampNeg v2).1 172 7) + (1 : Int32)))
 else none)
 else none)
set_option maxRecDepth 20000 in
theorem v_X12_lays_e {ε : eT} {κ : kT} (C : Act ε κ cX12_lays 3 RX12 1) {S : St} {res : St} (X : RI ε κ none none res) {v1 : Int32} {v2 : Int32} (h : f_X12_lays S v1 v2 = some res) : V ε κ 3 0 [(0, .ref (eA ε 172)), (1, .int v1), (2, .int v2)] [] (wsOf ε S) 0 0 := by
  unfold f_X12_lays at h
  refine V_aload_n C 0 dX12_lays_0 rfl rfl ?_
  refine G_X12_step (q := 172) C sk_172 q_FL_X12_22 dX12_lays_1 ?_
  refine V_iconst C dX12_lays_4 kc_i_2 ?_
  refine V_aload_n C 0 dX12_lays_5 rfl rfl ?_
  refine G_X12_steps (q := 172) C sk_172 q_FL_X12_113 dX12_lays_6 ?_
  refine V_imul C dX12_lays_9 ?_
  refine V_iload_n C 1 dX12_lays_10 rfl rfl ?_
  obtain ⟨g1, h⟩ := gdt h
  refine W_iast (q := 177) C sk_177 g1 dX12_lays_11 ?_
  refine V_aload_n C 0 dX12_lays_12 rfl rfl ?_
  refine G_X12_step (q := 172) C sk_172 q_FL_X12_22 dX12_lays_13 ?_
  refine V_iconst C dX12_lays_16 kc_i_2 ?_
  refine V_aload_n C 0 dX12_lays_17 rfl rfl ?_
  refine G_X12_steps (q := 172) C sk_172 q_FL_X12_113 dX12_lays_18 ?_
  refine V_imul C dX12_lays_21 ?_
  refine V_iconst C dX12_lays_22 kc_i_1 ?_
  refine V_iadd C dX12_lays_23 ?_
  refine V_iload_n C 2 dX12_lays_24 rfl rfl ?_
  obtain ⟨g2, h⟩ := gdt h
  refine W_iast (q := 177) C sk_177 g2 dX12_lays_25 ?_
  refine V_aload_n C 0 dX12_lays_26 rfl rfl ?_
  refine V_dup C dX12_lays_27 rfl ?_
  refine G_X12_steps (q := 172) C sk_172 q_FL_X12_113 dX12_lays_28 ?_
  refine V_iconst C dX12_lays_31 kc_i_1 ?_
  refine V_iadd C dX12_lays_32 ?_
  refine P_X12_steps (q := 172) C sk_172 q_FL_X12_113 dX12_lays_33 ?_
  exact V_vret C X dX12_lays_36 ⟨rfl, rv_2 h⟩
theorem c_X12_lays {ε : eT} {S : St} {v1 : Int32} {v2 : Int32} {res : St} (h : f_X12_lays S v1 v2 = some res) : CI ε yX12_lays cX12_lays 3 none 1 [.ref (eA ε 172), .int v1, .int v2] S none res := CI_of (by decide) (Nat.le_of_ble_eq_true rfl) rfl (fun κ C X => v_X12_lays_e C X h)
def f_X12_product_36 (N : Nat) (rc : St → Option (Int32 × St)) (K9 : St → Option (Int32 × St)) (S : St) : Option (Int32 × St) :=
 bnd (f_X12_look S) (fun a2 =>
 bnd2 (rc (pt S 172 5 ((S.1 172 5) + (1 : Int32)))) (fun a4 S5 =>
 (if a4 = 0 then
 some ((0 : Int32), S5)
 else
 bnd (f_X12_lays S5 (3 : Int32) a2) (fun S8 =>
 K9 S8))))
set_option maxRecDepth 20000 in
theorem v_X12_product_36 {ε : eT} {κ : kT} {N : Nat} {rc : St → Option (Int32 × St)} {e : Nat} (C : Act ε κ cX12_product 2 RX12 (e + 1)) {S : St} {res : (Int32 × St)} (X : RI ε κ (some .boolean) (some (.int res.1)) res.2) (hrc : ∀ (S : St) (res : (Int32 × St)), rc S = some res → CI ε yX12_one cX12_one 4 (some .boolean) e [.ref (eA ε 172)] S (some (.int res.1)) res.2) (he : 8 ≤ e) {K9 : St → Option (Int32 × St)} (hK9 : ∀ (S : St), K9 S = some res → V ε κ 2 9 [(0, .ref (eA ε 172))] [] (wsOf ε S) 0 0) (h : f_X12_product_36 N rc K9 S = some res) : V ε κ 2 36 [(0, .ref (eA ε 172))] [] (wsOf ε S) 0 0 := by
  unfold f_X12_product_36 at h
  refine V_aload_n C 0 dX12_product_36 rfl rfl ?_
  obtain ⟨a2, e1, h⟩ := bnd_s h
  refine W_callvi C cf_X12_look (c_X12_look e1) q_ML_X12_120 (ws_X12 sk_172) rfl dX12_product_37 (by omega) rfl rfl (Nat.le_of_ble_eq_true rfl) ?_
  refine V_istore_n (lv' := [(1, .int a2), (0, .ref (eA ε 172))]) C dX12_product_40 rfl (by decide) rfl ?_
  refine V_aload_n C 1 dX12_product_41 rfl rfl ?_
  refine V_dup C dX12_product_42 rfl ?_
  refine G_X12_at (q := 172) C sk_172 q_FL_X12_106 dX12_product_43 ?_
  refine V_iconst C dX12_product_46 kc_i_1 ?_
  refine V_iadd C dX12_product_47 ?_
  refine P_X12_at (q := 172) C sk_172 q_FL_X12_106 dX12_product_48 ?_
  refine V_aload_n C 1 dX12_product_51 rfl rfl ?_
  obtain ⟨a4, S5, e3, h⟩ := bnd2_s h
  refine W_callvi C cf_X12_one (hrc _ _ e3) q_ML_X12_137 (ws_X12 sk_172) rfl dX12_product_52 (by omega) rfl rfl (Nat.le_of_ble_eq_true rfl) ?_
  refine V_if_ne C dX12_product_55 rfl (fun c6 => ?_) (fun c6 => ?_)
  · replace h := ifn c6 h
    refine V_aload_n C 1 dX12_product_60 rfl rfl ?_
    refine V_iconst C dX12_product_61 kc_i_3 ?_
    refine V_iload_n C 0 dX12_product_62 rfl rfl ?_
    obtain ⟨S8, e7, h⟩ := bnd_s h
    refine W_callvn C cf_X12_lays (c_X12_lays e7) q_ML_X12_124 (ws_X12 sk_172) rfl dX12_product_63 (by omega) rfl rfl (Nat.le_of_ble_eq_true rfl) ?_
    refine V_goto C dX12_product_66 rfl ?_
    refine V_sub C [1] rfl ?_
    exact hK9 _ h
  · replace h := ifp c6 h
    refine V_iconst C dX12_product_58 kc_i_0 ?_
    exact V_zret C nb_0 X dX12_product_59 ⟨ri_1 h, ri_2 h⟩
def f_X12_product_9 (N : Nat) (rc : St → Option (Int32 × St)) : Nat → St → Option (Int32 × St)
  | 0, _ => none
  | n + 1, S =>
    bnd (f_X12_look S) (fun a2 =>
     (if a2 = (42 : Int32) then
     f_X12_product_36 N rc (f_X12_product_9 N rc n) S
     else
     bnd (f_X12_look S) (fun a5 =>
     (if a5 = (47 : Int32) then
     f_X12_product_36 N rc (f_X12_product_9 N rc n) S
     else
     bnd (f_X12_look S) (fun a8 =>
     (if a8 = (37 : Int32) then
     f_X12_product_36 N rc (f_X12_product_9 N rc n) S
     else
     some ((1 : Int32), S)))))))
set_option maxRecDepth 20000 in
theorem v_X12_product_9 {ε : eT} {κ : kT} {N : Nat} {rc : St → Option (Int32 × St)} {e : Nat} (C : Act ε κ cX12_product 2 RX12 (e + 1)) {res : (Int32 × St)} (X : RI ε κ (some .boolean) (some (.int res.1)) res.2) (hrc : ∀ (S : St) (res : (Int32 × St)), rc S = some res → CI ε yX12_one cX12_one 4 (some .boolean) e [.ref (eA ε 172)] S (some (.int res.1)) res.2) (he : 8 ≤ e) : ∀ (n : Nat) (S : St) (h : f_X12_product_9 N rc n S = some res), V ε κ 2 9 [(0, .ref (eA ε 172))] [] (wsOf ε S) 0 0 := by
  intro n
  induction n with
  | zero => intro S h; cases h
  | succ n ih =>
    intro S h
    rw [f_X12_product_9] at h
    refine V_aload_n C 0 dX12_product_9 rfl rfl ?_
    obtain ⟨a2, e1, h⟩ := bnd_s h
    refine W_callvi C cf_X12_look (c_X12_look e1) q_ML_X12_120 (ws_X12 sk_172) rfl dX12_product_10 (by omega) rfl rfl (Nat.le_of_ble_eq_true rfl) ?_
    refine V_bipush C dX12_product_13 kc_b_42 ?_
    refine V_icmp_eq C dX12_product_15 rfl (fun c3 => ?_) (fun c3 => ?_)
    · replace h := ifp c3 h
      exact v_X12_product_36 C X hrc he ih h
    · replace h := ifn c3 h
      refine V_aload_n C 0 dX12_product_18 rfl rfl ?_
      obtain ⟨a5, e4, h⟩ := bnd_s h
      refine W_callvi C cf_X12_look (c_X12_look e4) q_ML_X12_120 (ws_X12 sk_172) rfl dX12_product_19 (by omega) rfl rfl (Nat.le_of_ble_eq_true rfl) ?_
      refine V_bipush C dX12_product_22 kc_b_47 ?_
      refine V_icmp_eq C dX12_product_24 rfl (fun c6 => ?_) (fun c6 => ?_)
      · replace h := ifp c6 h
        exact v_X12_product_36 C X hrc he ih h
      · replace h := ifn c6 h
        refine V_aload_n C 0 dX12_product_27 rfl rfl ?_
        obtain ⟨a8, e7, h⟩ := bnd_s h
        refine W_callvi C cf_X12_look (c_X12_look e7) q_ML_X12_120 (ws_X12 sk_172) rfl dX12_product_28 (by omega) rfl rfl (Nat.le_of_ble_eq_true rfl) ?_
        refine V_bipush C dX12_product_31 kc_b_37 ?_
        refine V_icmp_ne C dX12_product_33 rfl (fun c9 => ?_) (fun c9 => ?_)
        · replace h := ifn c9 h
          refine V_iconst C dX12_product_69 kc_i_1 ?_
          exact V_zret C nb_1 X dX12_product_70 ⟨ri_1 h, ri_2 h⟩
        · replace h := ifp c9 h
          exact v_X12_product_36 C X hrc he ih h
def f_X12_product (N : Nat) (rc : St → Option (Int32 × St)) (S : St) : Option (Int32 × St) :=
 bnd2 (rc S) (fun a2 S3 =>
 (if a2 = 0 then
 some ((0 : Int32), S3)
 else
 f_X12_product_9 N rc N S3))
set_option maxRecDepth 20000 in
theorem v_X12_product_e {ε : eT} {κ : kT} {N : Nat} {rc : St → Option (Int32 × St)} {e : Nat} (C : Act ε κ cX12_product 2 RX12 (e + 1)) {S : St} {res : (Int32 × St)} (X : RI ε κ (some .boolean) (some (.int res.1)) res.2) (hrc : ∀ (S : St) (res : (Int32 × St)), rc S = some res → CI ε yX12_one cX12_one 4 (some .boolean) e [.ref (eA ε 172)] S (some (.int res.1)) res.2) (he : 8 ≤ e) (h : f_X12_product N rc S = some res) : V ε κ 2 0 [(0, .ref (eA ε 172))] [] (wsOf ε S) 0 0 := by
  unfold f_X12_product at h
  refine V_aload_n C 0 dX12_product_0 rfl rfl ?_
  obtain ⟨a2, S3, e1, h⟩ := bnd2_s h
  refine W_callvi C cf_X12_one (hrc _ _ e1) q_ML_X12_137 (ws_X12 sk_172) rfl dX12_product_1 (by omega) rfl rfl (Nat.le_of_ble_eq_true rfl) ?_
  refine V_if_ne C dX12_product_4 rfl (fun c4 => ?_) (fun c4 => ?_)
  · replace h := ifn c4 h
    exact v_X12_product_9 C X hrc he N _ h
  · replace h := ifp c4 h
    refine V_iconst C dX12_product_7 kc_i_0 ?_
    exact V_zret C nb_0 X dX12_product_8 ⟨ri_1 h, ri_2 h⟩
theorem c_X12_product {ε : eT} {N : Nat} {rc : St → Option (Int32 × St)} {e : Nat} (hrc : ∀ (S : St) (res : (Int32 × St)), rc S = some res → CI ε yX12_one cX12_one 4 (some .boolean) e [.ref (eA ε 172)] S (some (.int res.1)) res.2) (he : 8 ≤ e) {S : St} {res : (Int32 × St)} (h : f_X12_product N rc S = some res) : CI ε yX12_product cX12_product 2 (some .boolean) (e + 1) [.ref (eA ε 172)] S (some (.int res.1)) res.2 := CI_of (by decide) (Nat.le_of_ble_eq_true rfl) rfl (fun κ C X => v_X12_product_e C X hrc he h)
def f_X12_sum_27 (N : Nat) (rc : St → Option (Int32 × St)) (K9 : St → Option (Int32 × St)) (S : St) : Option (Int32 × St) :=
 bnd (f_X12_look S) (fun a2 =>
 bnd2 (f_X12_product N rc (pt S 172 5 ((S.1 172 5) + (1 : Int32)))) (fun a4 S5 =>
 (if a4 = 0 then
 some ((0 : Int32), S5)
 else
 bnd (f_X12_lays S5 (3 : Int32) a2) (fun S8 =>
 K9 S8))))
set_option maxRecDepth 20000 in
theorem v_X12_sum_27 {ε : eT} {κ : kT} {N : Nat} {rc : St → Option (Int32 × St)} {e : Nat} (C : Act ε κ cX12_sum 2 RX12 (e + 2)) {S : St} {res : (Int32 × St)} (X : RI ε κ (some .boolean) (some (.int res.1)) res.2) (hrc : ∀ (S : St) (res : (Int32 × St)), rc S = some res → CI ε yX12_one cX12_one 4 (some .boolean) e [.ref (eA ε 172)] S (some (.int res.1)) res.2) (he : 8 ≤ e) {K9 : St → Option (Int32 × St)} (hK9 : ∀ (S : St), K9 S = some res → V ε κ 2 9 [(0, .ref (eA ε 172))] [] (wsOf ε S) 0 0) (h : f_X12_sum_27 N rc K9 S = some res) : V ε κ 2 27 [(0, .ref (eA ε 172))] [] (wsOf ε S) 0 0 := by
  unfold f_X12_sum_27 at h
  refine V_aload_n C 0 dX12_sum_27 rfl rfl ?_
  obtain ⟨a2, e1, h⟩ := bnd_s h
  refine W_callvi C cf_X12_look (c_X12_look e1) q_ML_X12_120 (ws_X12 sk_172) rfl dX12_sum_28 (by omega) rfl rfl (Nat.le_of_ble_eq_true rfl) ?_
  refine V_istore_n (lv' := [(1, .int a2), (0, .ref (eA ε 172))]) C dX12_sum_31 rfl (by decide) rfl ?_
  refine V_aload_n C 1 dX12_sum_32 rfl rfl ?_
  refine V_dup C dX12_sum_33 rfl ?_
  refine G_X12_at (q := 172) C sk_172 q_FL_X12_106 dX12_sum_34 ?_
  refine V_iconst C dX12_sum_37 kc_i_1 ?_
  refine V_iadd C dX12_sum_38 ?_
  refine P_X12_at (q := 172) C sk_172 q_FL_X12_106 dX12_sum_39 ?_
  refine V_aload_n C 1 dX12_sum_42 rfl rfl ?_
  obtain ⟨a4, S5, e3, h⟩ := bnd2_s h
  refine W_callvi C cf_X12_product (c_X12_product hrc he e3) q_ML_X12_134 (ws_X12 sk_172) rfl dX12_sum_43 (by omega) rfl rfl (Nat.le_of_ble_eq_true rfl) ?_
  refine V_if_ne C dX12_sum_46 rfl (fun c6 => ?_) (fun c6 => ?_)
  · replace h := ifn c6 h
    refine V_aload_n C 1 dX12_sum_51 rfl rfl ?_
    refine V_iconst C dX12_sum_52 kc_i_3 ?_
    refine V_iload_n C 0 dX12_sum_53 rfl rfl ?_
    obtain ⟨S8, e7, h⟩ := bnd_s h
    refine W_callvn C cf_X12_lays (c_X12_lays e7) q_ML_X12_124 (ws_X12 sk_172) rfl dX12_sum_54 (by omega) rfl rfl (Nat.le_of_ble_eq_true rfl) ?_
    refine V_goto C dX12_sum_57 rfl ?_
    refine V_sub C [1] rfl ?_
    exact hK9 _ h
  · replace h := ifp c6 h
    refine V_iconst C dX12_sum_49 kc_i_0 ?_
    exact V_zret C nb_0 X dX12_sum_50 ⟨ri_1 h, ri_2 h⟩
def f_X12_sum_9 (N : Nat) (rc : St → Option (Int32 × St)) : Nat → St → Option (Int32 × St)
  | 0, _ => none
  | n + 1, S =>
    bnd (f_X12_look S) (fun a2 =>
     (if a2 = (43 : Int32) then
     f_X12_sum_27 N rc (f_X12_sum_9 N rc n) S
     else
     bnd (f_X12_look S) (fun a5 =>
     (if a5 = (45 : Int32) then
     f_X12_sum_27 N rc (f_X12_sum_9 N rc n) S
     else
     some ((1 : Int32), S)))))
set_option maxRecDepth 20000 in
theorem v_X12_sum_9 {ε : eT} {κ : kT} {N : Nat} {rc : St → Option (Int32 × St)} {e : Nat} (C : Act ε κ cX12_sum 2 RX12 (e + 2)) {res : (Int32 × St)} (X : RI ε κ (some .boolean) (some (.int res.1)) res.2) (hrc : ∀ (S : St) (res : (Int32 × St)), rc S = some res → CI ε yX12_one cX12_one 4 (some .boolean) e [.ref (eA ε 172)] S (some (.int res.1)) res.2) (he : 8 ≤ e) : ∀ (n : Nat) (S : St) (h : f_X12_sum_9 N rc n S = some res), V ε κ 2 9 [(0, .ref (eA ε 172))] [] (wsOf ε S) 0 0 := by
  intro n
  induction n with
  | zero => intro S h; cases h
  | succ n ih =>
    intro S h
    rw [f_X12_sum_9] at h
    refine V_aload_n C 0 dX12_sum_9 rfl rfl ?_
    obtain ⟨a2, e1, h⟩ := bnd_s h
    refine W_callvi C cf_X12_look (c_X12_look e1) q_ML_X12_120 (ws_X12 sk_172) rfl dX12_sum_10 (by omega) rfl rfl (Nat.le_of_ble_eq_true rfl) ?_
    refine V_bipush C dX12_sum_13 kc_b_43 ?_
    refine V_icmp_eq C dX12_sum_15 rfl (fun c3 => ?_) (fun c3 => ?_)
    · replace h := ifp c3 h
      exact v_X12_sum_27 C X hrc he ih h
    · replace h := ifn c3 h
      refine V_aload_n C 0 dX12_sum_18 rfl rfl ?_
      obtain ⟨a5, e4, h⟩ := bnd_s h
      refine W_callvi C cf_X12_look (c_X12_look e4) q_ML_X12_120 (ws_X12 sk_172) rfl dX12_sum_19 (by omega) rfl rfl (Nat.le_of_ble_eq_true rfl) ?_
      refine V_bipush C dX12_sum_22 kc_b_45 ?_
      refine V_icmp_ne C dX12_sum_24 rfl (fun c6 => ?_) (fun c6 => ?_)
      · replace h := ifn c6 h
        refine V_iconst C dX12_sum_60 kc_i_1 ?_
        exact V_zret C nb_1 X dX12_sum_61 ⟨ri_1 h, ri_2 h⟩
      · replace h := ifp c6 h
        exact v_X12_sum_27 C X hrc he ih h
def f_X12_sum (N : Nat) (rc : St → Option (Int32 × St)) (S : St) : Option (Int32 × St) :=
 bnd2 (f_X12_product N rc S) (fun a2 S3 =>
 (if a2 = 0 then
 some ((0 : Int32), S3)
 else
 f_X12_sum_9 N rc N S3))
set_option maxRecDepth 20000 in
theorem v_X12_sum_e {ε : eT} {κ : kT} {N : Nat} {rc : St → Option (Int32 × St)} {e : Nat} (C : Act ε κ cX12_sum 2 RX12 (e + 2)) {S : St} {res : (Int32 × St)} (X : RI ε κ (some .boolean) (some (.int res.1)) res.2) (hrc : ∀ (S : St) (res : (Int32 × St)), rc S = some res → CI ε yX12_one cX12_one 4 (some .boolean) e [.ref (eA ε 172)] S (some (.int res.1)) res.2) (he : 8 ≤ e) (h : f_X12_sum N rc S = some res) : V ε κ 2 0 [(0, .ref (eA ε 172))] [] (wsOf ε S) 0 0 := by
  unfold f_X12_sum at h
  refine V_aload_n C 0 dX12_sum_0 rfl rfl ?_
  obtain ⟨a2, S3, e1, h⟩ := bnd2_s h
  refine W_callvi C cf_X12_product (c_X12_product hrc he e1) q_ML_X12_134 (ws_X12 sk_172) rfl dX12_sum_1 (by omega) rfl rfl (Nat.le_of_ble_eq_true rfl) ?_
  refine V_if_ne C dX12_sum_4 rfl (fun c4 => ?_) (fun c4 => ?_)
  · replace h := ifn c4 h
    exact v_X12_sum_9 C X hrc he N _ h
  · replace h := ifp c4 h
    refine V_iconst C dX12_sum_7 kc_i_0 ?_
    exact V_zret C nb_0 X dX12_sum_8 ⟨ri_1 h, ri_2 h⟩
theorem c_X12_sum {ε : eT} {N : Nat} {rc : St → Option (Int32 × St)} {e : Nat} (hrc : ∀ (S : St) (res : (Int32 × St)), rc S = some res → CI ε yX12_one cX12_one 4 (some .boolean) e [.ref (eA ε 172)] S (some (.int res.1)) res.2) (he : 8 ≤ e) {S : St} {res : (Int32 × St)} (h : f_X12_sum N rc S = some res) : CI ε yX12_sum cX12_sum 2 (some .boolean) (e + 2) [.ref (eA ε 172)] S (some (.int res.1)) res.2 := CI_of (by decide) (Nat.le_of_ble_eq_true rfl) rfl (fun κ C X => v_X12_sum_e C X hrc he h)
def f_X12_compared_34 (N : Nat) (rc : St → Option (Int32 × St)) (S : St) (v1 : Int32) : Option (Int32 × St) :=
 bnd2 (f_X12_sum N rc (pt S 172 5 ((S.1 172 5) + (1 : Int32)))) (fun a2 S3 =>
 (if a2 = 0 then
 some ((0 : Int32), S3)
 else
 bnd (f_X12_lays S3 (3 : Int32) v1) (fun S6 =>
 some ((1 : Int32), S6))))
set_option maxRecDepth 20000 in
theorem v_X12_compared_34 {ε : eT} {κ : kT} {N : Nat} {rc : St → Option (Int32 × St)} {e : Nat} (C : Act ε κ cX12_compared 2 RX12 (e + 3)) {S : St} {res : (Int32 × St)} (X : RI ε κ (some .boolean) (some (.int res.1)) res.2) (hrc : ∀ (S : St) (res : (Int32 × St)), rc S = some res → CI ε yX12_one cX12_one 4 (some .boolean) e [.ref (eA ε 172)] S (some (.int res.1)) res.2) (he : 8 ≤ e) {v1 : Int32} (h : f_X12_compared_34 N rc S v1 = some res) : V ε κ 2 34 [(0, .ref (eA ε 172)), (1, .int v1)] [] (wsOf ε S) 0 0 := by
  unfold f_X12_compared_34 at h
  refine V_aload_n C 0 dX12_compared_34 rfl rfl ?_
  refine V_dup C dX12_compared_35 rfl ?_
  refine G_X12_at (q := 172) C sk_172 q_FL_X12_106 dX12_compared_36 ?_
  refine V_iconst C dX12_compared_39 kc_i_1 ?_
  refine V_iadd C dX12_compared_40 ?_
  refine P_X12_at (q := 172) C sk_172 q_FL_X12_106 dX12_compared_41 ?_
  refine V_aload_n C 0 dX12_compared_44 rfl rfl ?_
  obtain ⟨a2, S3, e1, h⟩ := bnd2_s h
  refine W_callvi C cf_X12_sum (c_X12_sum hrc he e1) q_ML_X12_131 (ws_X12 sk_172) rfl dX12_compared_45 (by omega) rfl rfl (Nat.le_of_ble_eq_true rfl) ?_
  refine V_if_ne C dX12_compared_48 rfl (fun c4 => ?_) (fun c4 => ?_)
  · replace h := ifn c4 h
    refine V_aload_n C 0 dX12_compared_53 rfl rfl ?_
    refine V_iconst C dX12_compared_54 kc_i_3 ?_
    refine V_iload_n C 1 dX12_compared_55 rfl rfl ?_
    obtain ⟨S6, e5, h⟩ := bnd_s h
    refine W_callvn C cf_X12_lays (c_X12_lays e5) q_ML_X12_124 (ws_X12 sk_172) rfl dX12_compared_56 (by omega) rfl rfl (Nat.le_of_ble_eq_true rfl) ?_
    refine V_iconst C dX12_compared_59 kc_i_1 ?_
    exact V_zret C nb_1 X dX12_compared_60 ⟨ri_1 h, ri_2 h⟩
  · replace h := ifp c4 h
    refine V_iconst C dX12_compared_51 kc_i_0 ?_
    exact V_zret C nb_0 X dX12_compared_52 ⟨ri_1 h, ri_2 h⟩
def f_X12_compared (N : Nat) (rc : St → Option (Int32 × St)) (S : St) : Option (Int32 × St) :=
 bnd2 (f_X12_sum N rc S) (fun a2 S3 =>
 (if a2 = 0 then
 some ((0 : Int32), S3)
 else
 bnd (f_X12_look S3) (fun a6 =>
 (if a6 = (60 : Int32) then
 f_X12_compared_34 N rc S3 a6
 else
 (if a6 = (61 : Int32) then
 f_X12_compared_34 N rc S3 a6
 else
 (if a6 = (62 : Int32) then
 f_X12_compared_34 N rc S3 a6
 else
 some ((1 : Int32), S3)))))))
set_option maxRecDepth 20000 in
theorem v_X12_compared_e {ε : eT} {κ : kT} {N : Nat} {rc : St → Option (Int32 × St)} {e : Nat} (C : Act ε κ cX12_compared 2 RX12 (e + 3)) {S : St} {res : (Int32 × St)} (X : RI ε κ (some .boolean) (some (.int res.1)) res.2) (hrc : ∀ (S : St) (res : (Int32 × St)), rc S = some res → CI ε yX12_one cX12_one 4 (some .boolean) e [.ref (eA ε 172)] S (some (.int res.1)) res.2) (he : 8 ≤ e) (h : f_X12_compared N rc S = some res) : V ε κ 2 0 [(0, .ref (eA ε 172))] [] (wsOf ε S) 0 0 := by
  unfold f_X12_compared at h
  refine V_aload_n C 0 dX12_compared_0 rfl rfl ?_
  obtain ⟨a2, S3, e1, h⟩ := bnd2_s h
  refine W_callvi C cf_X12_sum (c_X12_sum hrc he e1) q_ML_X12_131 (ws_X12 sk_172) rfl dX12_compared_1 (by omega) rfl rfl (Nat.le_of_ble_eq_true rfl) ?_
  refine V_if_ne C dX12_compared_4 rfl (fun c4 => ?_) (fun c4 => ?_)
  · replace h := ifn c4 h
    refine V_aload_n C 0 dX12_compared_9 rfl rfl ?_
    obtain ⟨a6, e5, h⟩ := bnd_s h
    refine W_callvi C cf_X12_look (c_X12_look e5) q_ML_X12_120 (ws_X12 sk_172) rfl dX12_compared_10 (by omega) rfl rfl (Nat.le_of_ble_eq_true rfl) ?_
    refine V_istore_n (lv' := [(1, .int a6), (0, .ref (eA ε 172))]) C dX12_compared_13 rfl (by decide) rfl ?_
    refine V_iload_n C 0 dX12_compared_14 rfl rfl ?_
    refine V_bipush C dX12_compared_15 kc_b_60 ?_
    refine V_icmp_eq C dX12_compared_17 rfl (fun c7 => ?_) (fun c7 => ?_)
    · replace h := ifp c7 h
      refine V_sub C [1, 0] rfl ?_
      exact v_X12_compared_34 C X hrc he h
    · replace h := ifn c7 h
      refine V_iload_n C 0 dX12_compared_20 rfl rfl ?_
      refine V_bipush C dX12_compared_21 kc_b_61 ?_
      refine V_icmp_eq C dX12_compared_23 rfl (fun c8 => ?_) (fun c8 => ?_)
      · replace h := ifp c8 h
        refine V_sub C [1, 0] rfl ?_
        exact v_X12_compared_34 C X hrc he h
      · replace h := ifn c8 h
        refine V_iload_n C 0 dX12_compared_26 rfl rfl ?_
        refine V_bipush C dX12_compared_27 kc_b_62 ?_
        refine V_icmp_eq C dX12_compared_29 rfl (fun c9 => ?_) (fun c9 => ?_)
        · replace h := ifp c9 h
          refine V_sub C [1, 0] rfl ?_
          exact v_X12_compared_34 C X hrc he h
        · replace h := ifn c9 h
          refine V_iconst C dX12_compared_32 kc_i_1 ?_
          exact V_zret C nb_1 X dX12_compared_33 ⟨ri_1 h, ri_2 h⟩
  · replace h := ifp c4 h
    refine V_iconst C dX12_compared_7 kc_i_0 ?_
    exact V_zret C nb_0 X dX12_compared_8 ⟨ri_1 h, ri_2 h⟩
theorem c_X12_compared {ε : eT} {N : Nat} {rc : St → Option (Int32 × St)} {e : Nat} (hrc : ∀ (S : St) (res : (Int32 × St)), rc S = some res → CI ε yX12_one cX12_one 4 (some .boolean) e [.ref (eA ε 172)] S (some (.int res.1)) res.2) (he : 8 ≤ e) {S : St} {res : (Int32 × St)} (h : f_X12_compared N rc S = some res) : CI ε yX12_compared cX12_compared 2 (some .boolean) (e + 3) [.ref (eA ε 172)] S (some (.int res.1)) res.2 := CI_of (by decide) (Nat.le_of_ble_eq_true rfl) rfl (fun κ C X => v_X12_compared_e C X hrc he h)
def f_X12_both_9 (N : Nat) (rc : St → Option (Int32 × St)) : Nat → St → Option (Int32 × St)
  | 0, _ => none
  | n + 1, S =>
    bnd (f_X12_look S) (fun a2 =>
     (if a2 = (38 : Int32) then
     bnd2 (f_X12_compared N rc (pt S 172 5 ((S.1 172 5) + (1 : Int32)))) (fun a5 S6 =>
     (if a5 = 0 then
     some ((0 : Int32), S6)
     else
     bnd (f_X12_lays S6 (3 : Int32) (38 : Int32)) (fun S9 =>
     f_X12_both_9 N rc n S9)))
     else
     some ((1 : Int32), S)))
set_option maxRecDepth 20000 in
theorem v_X12_both_9 {ε : eT} {κ : kT} {N : Nat} {rc : St → Option (Int32 × St)} {e : Nat} (C : Act ε κ cX12_both 1 RX12 (e + 4)) {res : (Int32 × St)} (X : RI ε κ (some .boolean) (some (.int res.1)) res.2) (hrc : ∀ (S : St) (res : (Int32 × St)), rc S = some res → CI ε yX12_one cX12_one 4 (some .boolean) e [.ref (eA ε 172)] S (some (.int res.1)) res.2) (he : 8 ≤ e) : ∀ (n : Nat) (S : St) (h : f_X12_both_9 N rc n S = some res), V ε κ 1 9 [(0, .ref (eA ε 172))] [] (wsOf ε S) 0 0 := by
  intro n
  induction n with
  | zero => intro S h; cases h
  | succ n ih =>
    intro S h
    rw [f_X12_both_9] at h
    refine V_aload_n C 0 dX12_both_9 rfl rfl ?_
    obtain ⟨a2, e1, h⟩ := bnd_s h
    refine W_callvi C cf_X12_look (c_X12_look e1) q_ML_X12_120 (ws_X12 sk_172) rfl dX12_both_10 (by omega) rfl rfl (Nat.le_of_ble_eq_true rfl) ?_
    refine V_bipush C dX12_both_13 kc_b_38 ?_
    refine V_icmp_ne C dX12_both_15 rfl (fun c3 => ?_) (fun c3 => ?_)
    · replace h := ifn c3 h
      refine V_iconst C dX12_both_47 kc_i_1 ?_
      exact V_zret C nb_1 X dX12_both_48 ⟨ri_1 h, ri_2 h⟩
    · replace h := ifp c3 h
      refine V_aload_n C 0 dX12_both_18 rfl rfl ?_
      refine V_dup C dX12_both_19 rfl ?_
      refine G_X12_at (q := 172) C sk_172 q_FL_X12_106 dX12_both_20 ?_
      refine V_iconst C dX12_both_23 kc_i_1 ?_
      refine V_iadd C dX12_both_24 ?_
      refine P_X12_at (q := 172) C sk_172 q_FL_X12_106 dX12_both_25 ?_
      refine V_aload_n C 0 dX12_both_28 rfl rfl ?_
      obtain ⟨a5, S6, e4, h⟩ := bnd2_s h
      refine W_callvi C cf_X12_compared (c_X12_compared hrc he e4) q_ML_X12_128 (ws_X12 sk_172) rfl dX12_both_29 (by omega) rfl rfl (Nat.le_of_ble_eq_true rfl) ?_
      refine V_if_ne C dX12_both_32 rfl (fun c7 => ?_) (fun c7 => ?_)
      · replace h := ifn c7 h
        refine V_aload_n C 0 dX12_both_37 rfl rfl ?_
        refine V_iconst C dX12_both_38 kc_i_3 ?_
        refine V_bipush C dX12_both_39 kc_b_38 ?_
        obtain ⟨S9, e8, h⟩ := bnd_s h
        refine W_callvn C cf_X12_lays (c_X12_lays e8) q_ML_X12_124 (ws_X12 sk_172) rfl dX12_both_41 (by omega) rfl rfl (Nat.le_of_ble_eq_true rfl) ?_
        refine V_goto C dX12_both_44 rfl ?_
        exact ih _ h
      · replace h := ifp c7 h
        refine V_iconst C dX12_both_35 kc_i_0 ?_
        exact V_zret C nb_0 X dX12_both_36 ⟨ri_1 h, ri_2 h⟩
def f_X12_both (N : Nat) (rc : St → Option (Int32 × St)) (S : St) : Option (Int32 × St) :=
 bnd2 (f_X12_compared N rc S) (fun a2 S3 =>
 (if a2 = 0 then
 some ((0 : Int32), S3)
 else
 f_X12_both_9 N rc N S3))
set_option maxRecDepth 20000 in
theorem v_X12_both_e {ε : eT} {κ : kT} {N : Nat} {rc : St → Option (Int32 × St)} {e : Nat} (C : Act ε κ cX12_both 1 RX12 (e + 4)) {S : St} {res : (Int32 × St)} (X : RI ε κ (some .boolean) (some (.int res.1)) res.2) (hrc : ∀ (S : St) (res : (Int32 × St)), rc S = some res → CI ε yX12_one cX12_one 4 (some .boolean) e [.ref (eA ε 172)] S (some (.int res.1)) res.2) (he : 8 ≤ e) (h : f_X12_both N rc S = some res) : V ε κ 1 0 [(0, .ref (eA ε 172))] [] (wsOf ε S) 0 0 := by
  unfold f_X12_both at h
  refine V_aload_n C 0 dX12_both_0 rfl rfl ?_
  obtain ⟨a2, S3, e1, h⟩ := bnd2_s h
  refine W_callvi C cf_X12_compared (c_X12_compared hrc he e1) q_ML_X12_128 (ws_X12 sk_172) rfl dX12_both_1 (by omega) rfl rfl (Nat.le_of_ble_eq_true rfl) ?_
  refine V_if_ne C dX12_both_4 rfl (fun c4 => ?_) (fun c4 => ?_)
  · replace h := ifn c4 h
    exact v_X12_both_9 C X hrc he N _ h
  · replace h := ifp c4 h
    refine V_iconst C dX12_both_7 kc_i_0 ?_
    exact V_zret C nb_0 X dX12_both_8 ⟨ri_1 h, ri_2 h⟩
theorem c_X12_both {ε : eT} {N : Nat} {rc : St → Option (Int32 × St)} {e : Nat} (hrc : ∀ (S : St) (res : (Int32 × St)), rc S = some res → CI ε yX12_one cX12_one 4 (some .boolean) e [.ref (eA ε 172)] S (some (.int res.1)) res.2) (he : 8 ≤ e) {S : St} {res : (Int32 × St)} (h : f_X12_both N rc S = some res) : CI ε yX12_both cX12_both 1 (some .boolean) (e + 4) [.ref (eA ε 172)] S (some (.int res.1)) res.2 := CI_of (by decide) (Nat.le_of_ble_eq_true rfl) rfl (fun κ C X => v_X12_both_e C X hrc he h)
def f_X12_kindNow (S : St) : Option Int32 :=
 bnd (f_X12_who S (S.1 172 14) (0 : Int32)) (fun a2 =>
 some a2)
set_option maxRecDepth 20000 in
theorem v_X12_kindNow_e {ε : eT} {κ : kT} (C : Act ε κ cX12_kindNow 1 RX12 2) {S : St} {res : Int32} (X : RI ε κ (some .int) (some (.int res)) S) (h : f_X12_kindNow S = some res) : V ε κ 1 0 [(0, .ref (eA ε 172))] [] (wsOf ε S) 0 0 := by
  unfold f_X12_kindNow at h
  refine V_aload_n C 0 dX12_kindNow_0 rfl rfl ?_
  refine V_aload_n C 0 dX12_kindNow_1 rfl rfl ?_
  refine G_X12_speaks (q := 172) C sk_172 q_FL_X12_248 dX12_kindNow_2 ?_
  refine V_iconst C dX12_kindNow_5 kc_i_0 ?_
  obtain ⟨a2, e1, h⟩ := bnd_s h
  refine W_callvi C cf_X12_who (c_X12_who e1) q_ML_X12_79 (ws_X12 sk_172) rfl dX12_kindNow_6 (by decide) rfl rfl (Nat.le_of_ble_eq_true rfl) ?_
  exact V_iret C X dX12_kindNow_9 ⟨rip_1 h, rfl⟩
theorem c_X12_kindNow {ε : eT} {S : St} {res : Int32} (h : f_X12_kindNow S = some res) : CI ε yX12_kindNow cX12_kindNow 1 (some .int) 2 [.ref (eA ε 172)] S (some (.int res)) S := CI_of (by decide) (Nat.le_of_ble_eq_true rfl) rfl (fun κ C X => v_X12_kindNow_e C X h)
