def f_X0_offer_89 (N : Nat) (K27 : St → Nat → Int32 → Int32 → Int32 → Int32 → Option St) (S : St) (v0 : Nat) (v1 : Int32) (v2 : Int32) (v3 : Int32) (v4 : Int32) (s0 : Int32) : Option St :=
 (if s0 = 0 then
 K27 S v0 v1 v2 v3 (v4 + 1)
 else
 bnd (f_X0_sell S v0 v1 v4) (fun S3 =>
 some S3))
set_option maxRecDepth 20000 in
theorem v_X0_offer_89 {ε : eT} {κ : kT} {N : Nat} (C : Act ε κ cX0_offer 6 RX0 4) {S : St} {res : St} (X : RI ε κ none none res) {K27 : St → Nat → Int32 → Int32 → Int32 → Int32 → Option St} (hK27 : ∀ (S : St) (v0 : Nat) (v1 : Int32) (v2 : Int32) (v3 : Int32) (v4 : Int32) (_ : sh v0 = 9), K27 S v0 v1 v2 v3 v4 = some res → V ε κ 6 27 [(0, .ref (eA ε v0)), (1, .int v1), (2, .int v2), (3, .int v3), (4, .int v4)] [] (wsOf ε S) 0 0) {v0 : Nat} {v1 : Int32} {v2 : Int32} {v3 : Int32} {v4 : Int32} {s0 : Int32} (h0 : sh v0 = 9) (h : f_X0_offer_89 N K27 S v0 v1 v2 v3 v4 s0 = some res) : V ε κ 6 89 [(0, .ref (eA ε v0)), (1, .int v1), (2, .int v2), (3, .int v3), (4, .int v4)] [.int s0] (wsOf ε S) 0 0 := by
  unfold f_X0_offer_89 at h
  refine V_istore (lv' := [(5, .int s0), (0, .ref (eA ε v0)), (1, .int v1), (2, .int v2), (3, .int v3), (4, .int v4)]) C dX0_offer_89 (by decide) rfl ?_
  refine V_iload C 0 dX0_offer_91 rfl ?_
  refine V_if_eq C dX0_offer_93 rfl (fun c1 => ?_) (fun c1 => ?_)
  · replace h := ifp c1 h
    refine V_iinc (v := (v4 + 1)) (lv' := [(4, .int (v4 + 1)), (5, .int s0), (0, .ref (eA ε v0)), (1, .int v1), (2, .int v2), (3, .int v3)]) C 5 dX0_offer_104 rfl (congrArg _ kc_i_1) (by decide) rfl ?_
    refine V_goto C dX0_offer_107 rfl ?_
    refine V_sub C [2, 3, 4, 5, 0] rfl ?_
    exact hK27 _ _ _ _ _ _ h0 h
  · replace h := ifn c1 h
    refine V_aload_n C 1 dX0_offer_96 rfl rfl ?_
    refine V_iload_n C 2 dX0_offer_97 rfl rfl ?_
    refine V_iload C 5 dX0_offer_98 rfl ?_
    obtain ⟨S3, e2, h⟩ := bnd_s h
    refine W_callsn C cf_X0_sell (c_X0_sell h0 e2) q_ML_X0_103 dX0_offer_100 (by decide) rfl rfl (Nat.le_of_ble_eq_true rfl) ?_
    exact V_vret C X dX0_offer_103 ⟨rfl, rv_2 h⟩
def f_X0_offer_88 (N : Nat) (K27 : St → Nat → Int32 → Int32 → Int32 → Int32 → Option St) (S : St) (v0 : Nat) (v1 : Int32) (v2 : Int32) (v3 : Int32) (v4 : Int32) : Option St :=
 f_X0_offer_89 N K27 S v0 v1 v2 v3 v4 (0 : Int32)
set_option maxRecDepth 20000 in
theorem v_X0_offer_88 {ε : eT} {κ : kT} {N : Nat} (C : Act ε κ cX0_offer 6 RX0 4) {S : St} {res : St} (X : RI ε κ none none res) {K27 : St → Nat → Int32 → Int32 → Int32 → Int32 → Option St} (hK27 : ∀ (S : St) (v0 : Nat) (v1 : Int32) (v2 : Int32) (v3 : Int32) (v4 : Int32) (_ : sh v0 = 9), K27 S v0 v1 v2 v3 v4 = some res → V ε κ 6 27 [(0, .ref (eA ε v0)), (1, .int v1), (2, .int v2), (3, .int v3), (4, .int v4)] [] (wsOf ε S) 0 0) {v0 : Nat} {v1 : Int32} {v2 : Int32} {v3 : Int32} {v4 : Int32} (h0 : sh v0 = 9) (h : f_X0_offer_88 N K27 S v0 v1 v2 v3 v4 = some res) : V ε κ 6 88 [(0, .ref (eA ε v0)), (1, .int v1), (2, .int v2), (3, .int v3), (4, .int v4)] [] (wsOf ε S) 0 0 := by
  unfold f_X0_offer_88 at h
  refine V_iconst C dX0_offer_88 kc_i_0 ?_
  exact v_X0_offer_89 C X hK27 h0 h
def f_X0_offer_27 (N : Nat) : Nat → St → Nat → Int32 → Int32 → Int32 → Int32 → Option St
  | 0, _, _, _, _, _, _ => none
  | n + 1, S, v0, v1, v2, v3, v4 =>
    bnd (f_X3_size S (v0 + 1)) (fun a2 =>
     (if a2 ≤ v4 then
     some S
     else
     (if v4 = v2 then
     f_X0_offer_88 N (f_X0_offer_27 N n) S v0 v1 v2 v3 v4
     else
     bnd2 (f_X9_nextComes S v0 v4) (fun a6 S7 =>
     (if a6 = 0 then
     f_X0_offer_88 N (f_X0_offer_27 N n) S7 v0 v1 v2 v3 v4
     else
     bnd (f_X8_valueOf S7 (v0 + 10) v4 v1) (fun a10 =>
     (if a10 ≤ v3 then
     f_X0_offer_88 N (f_X0_offer_27 N n) S7 v0 v1 v2 v3 v4
     else
     bnd (f_X5_at S7 (v0 + 4) v4) (fun a13 =>
     (if a13 < v3 then
     f_X0_offer_88 N (f_X0_offer_27 N n) S7 v0 v1 v2 v3 v4
     else
     f_X0_offer_89 N (f_X0_offer_27 N n) S7 v0 v1 v2 v3 v4 (1 : Int32))))))))))
set_option maxRecDepth 20000 in
theorem v_X0_offer_27 {ε : eT} {κ : kT} {N : Nat} (C : Act ε κ cX0_offer 6 RX0 4) {res : St} (X : RI ε κ none none res) : ∀ (n : Nat) (S : St) (v0 : Nat) (v1 : Int32) (v2 : Int32) (v3 : Int32) (v4 : Int32) (h0 : sh v0 = 9) (h : f_X0_offer_27 N n S v0 v1 v2 v3 v4 = some res), V ε κ 6 27 [(0, .ref (eA ε v0)), (1, .int v1), (2, .int v2), (3, .int v3), (4, .int v4)] [] (wsOf ε S) 0 0 := by
  intro n
  induction n with
  | zero => intro S v0 v1 v2 v3 v4 h0 h; cases h
  | succ n ih =>
    intro S v0 v1 v2 v3 v4 h0 h
    rw [f_X0_offer_27] at h
    refine V_iload C 4 dX0_offer_27 rfl ?_
    refine V_aload_n C 0 dX0_offer_29 rfl rfl ?_
    refine G_X9_people (q := v0) C h0 q_FL_X0_66 dX0_offer_30 ?_
    obtain ⟨a2, e1, h⟩ := bnd_s h
    refine W_callvi C cf_X3_size (c_X3_size (so_9_1 h0) e1) q_ML_X0_95 (ws_X3 (so_9_1 h0)) rfl dX0_offer_33 (by decide) rfl rfl (Nat.le_of_ble_eq_true rfl) ?_
    refine V_icmp_ge C dX0_offer_36 rfl (fun c3 => ?_) (fun c3 => ?_)
    · replace h := ifp c3 h
      exact V_vret C X dX0_offer_110 ⟨rfl, rv_2 h⟩
    · replace h := ifn c3 h
      refine V_iload C 4 dX0_offer_39 rfl ?_
      refine V_iload_n C 2 dX0_offer_41 rfl rfl ?_
      refine V_icmp_eq C dX0_offer_42 rfl (fun c4 => ?_) (fun c4 => ?_)
      · replace h := ifp c4 h
        exact v_X0_offer_88 C X ih h0 h
      · replace h := ifn c4 h
        refine V_aload_n C 0 dX0_offer_45 rfl rfl ?_
        refine V_iload C 4 dX0_offer_46 rfl ?_
        obtain ⟨a6, S7, e5, h⟩ := bnd2_s h
        refine W_callvi C cf_X9_nextComes (c_X9_nextComes h0 e5) q_ML_X0_96 (ws_X9 h0) rfl dX0_offer_48 (by decide) rfl rfl (Nat.le_of_ble_eq_true rfl) ?_
        refine V_if_eq C dX0_offer_51 rfl (fun c8 => ?_) (fun c8 => ?_)
        · replace h := ifp c8 h
          exact v_X0_offer_88 C X ih h0 h
        · replace h := ifn c8 h
          refine V_aload_n C 0 dX0_offer_54 rfl rfl ?_
          refine G_X9_things (q := v0) C h0 q_FL_X0_33 dX0_offer_55 ?_
          refine V_iload C 4 dX0_offer_58 rfl ?_
          refine V_iload_n C 1 dX0_offer_60 rfl rfl ?_
          obtain ⟨a10, e9, h⟩ := bnd_s h
          refine W_callvi C cf_X8_valueOf (c_X8_valueOf (so_9_10 h0) e9) q_ML_X0_100 (ws_X8 (so_9_10 h0)) rfl dX0_offer_61 (by decide) rfl rfl (Nat.le_of_ble_eq_true rfl) ?_
          refine V_iload_n C 3 dX0_offer_64 rfl rfl ?_
          refine V_icmp_le C dX0_offer_65 rfl (fun c11 => ?_) (fun c11 => ?_)
          · replace h := ifp c11 h
            exact v_X0_offer_88 C X ih h0 h
          · replace h := ifn c11 h
            refine V_aload_n C 0 dX0_offer_68 rfl rfl ?_
            refine G_X9_people (q := v0) C h0 q_FL_X0_66 dX0_offer_69 ?_
            refine G_X3_purses (q := (v0 + 1)) C (so_9_1 h0) q_FL_X0_70 dX0_offer_72 ?_
            refine V_iload C 4 dX0_offer_75 rfl ?_
            obtain ⟨a13, e12, h⟩ := bnd_s h
            refine W_callvi C cf_X5_at (c_X5_at (so_9_4 h0) e12) q_ML_X0_60 (ws_X5 (so_9_4 h0)) rfl dX0_offer_77 (by decide) rfl rfl (Nat.le_of_ble_eq_true rfl) ?_
            refine V_iload_n C 3 dX0_offer_80 rfl rfl ?_
            refine V_icmp_lt C dX0_offer_81 rfl (fun c14 => ?_) (fun c14 => ?_)
            · replace h := ifp c14 h
              exact v_X0_offer_88 C X ih h0 h
            · replace h := ifn c14 h
              refine V_iconst C dX0_offer_84 kc_i_1 ?_
              refine V_goto C dX0_offer_85 rfl ?_
              exact v_X0_offer_89 C X ih h0 h
def f_X0_offer (N : Nat) (S : St) (v0 : Nat) (v1 : Int32) : Option St :=
 bnd (f_X5_at S (v0 + 11) v1) (fun a2 =>
 bnd (f_X5_at S (v0 + 13) v1) (fun a4 =>
 f_X0_offer_27 N N S v0 v1 a2 a4 (0 : Int32)))
set_option maxRecDepth 20000 in
theorem v_X0_offer_e {ε : eT} {κ : kT} {N : Nat} (C : Act ε κ cX0_offer 6 RX0 4) {S : St} {res : St} (X : RI ε κ none none res) {v0 : Nat} {v1 : Int32} (h0 : sh v0 = 9) (h : f_X0_offer N S v0 v1 = some res) : V ε κ 6 0 [(0, .ref (eA ε v0)), (1, .int v1)] [] (wsOf ε S) 0 0 := by
  unfold f_X0_offer at h
  refine V_aload_n C 0 dX0_offer_0 rfl rfl ?_
  refine G_X9_things (q := v0) C h0 q_FL_X0_33 dX0_offer_1 ?_
  refine G_X8_owners (q := (v0 + 10)) C (so_9_10 h0) q_FL_X0_57 dX0_offer_4 ?_
  refine V_iload_n C 1 dX0_offer_7 rfl rfl ?_
  obtain ⟨a2, e1, h⟩ := bnd_s h
  refine W_callvi C cf_X5_at (c_X5_at (so_9_11 h0) e1) q_ML_X0_60 (ws_X5 (so_9_11 h0)) rfl dX0_offer_8 (by decide) rfl rfl (Nat.le_of_ble_eq_true rfl) ?_
  refine V_istore_n (lv' := [(2, .int a2), (0, .ref (eA ε v0)), (1, .int v1)]) C dX0_offer_11 rfl (by decide) rfl ?_
  refine V_aload_n C 1 dX0_offer_12 rfl rfl ?_
  refine G_X9_things (q := v0) C h0 q_FL_X0_33 dX0_offer_13 ?_
  refine G_X8_prices (q := (v0 + 10)) C (so_9_10 h0) q_FL_X0_43 dX0_offer_16 ?_
  refine V_iload_n C 2 dX0_offer_19 rfl rfl ?_
  obtain ⟨a4, e3, h⟩ := bnd_s h
  refine W_callvi C cf_X5_at (c_X5_at (so_9_13 h0) e3) q_ML_X0_60 (ws_X5 (so_9_13 h0)) rfl dX0_offer_20 (by decide) rfl rfl (Nat.le_of_ble_eq_true rfl) ?_
  refine V_istore_n (lv' := [(3, .int a4), (2, .int a2), (0, .ref (eA ε v0)), (1, .int v1)]) C dX0_offer_23 rfl (by decide) rfl ?_
  refine V_iconst C dX0_offer_24 kc_i_0 ?_
  refine V_istore (lv' := [(4, .int (0 : Int32)), (3, .int a4), (2, .int a2), (0, .ref (eA ε v0)), (1, .int v1)]) C dX0_offer_25 (by decide) rfl ?_
  refine V_sub C [3, 4, 2, 1, 0] rfl ?_
  exact v_X0_offer_27 C X N _ _ _ _ _ _ h0 h
theorem c_X0_offer {ε : eT} {N : Nat} {S : St} {v0 : Nat} {v1 : Int32} {res : St} (h0 : sh v0 = 9) (h : f_X0_offer N S v0 v1 = some res) : CI ε yX0_offer cX0_offer 6 none 4 [.ref (eA ε v0), .int v1] S none res := CI_of (by decide) (Nat.le_of_ble_eq_true rfl) rfl (fun κ C X => v_X0_offer_e C X h0 h)
def f_X0_sellAll_32 (N : Nat) (K2 : St → Nat → Int32 → Option St) (S : St) (v0 : Nat) (v1 : Int32) : Option St :=
 K2 S v0 (v1 + 1)
set_option maxRecDepth 20000 in
theorem v_X0_sellAll_32 {ε : eT} {κ : kT} {N : Nat} (C : Act ε κ cX0_sellAll 2 RX0 5) {S : St} {res : St} (X : RI ε κ none none res) {K2 : St → Nat → Int32 → Option St} (hK2 : ∀ (S : St) (v0 : Nat) (v1 : Int32) (_ : sh v0 = 9), K2 S v0 v1 = some res → V ε κ 2 2 [(0, .ref (eA ε v0)), (1, .int v1)] [] (wsOf ε S) 0 0) {v0 : Nat} {v1 : Int32} (h0 : sh v0 = 9) (h : f_X0_sellAll_32 N K2 S v0 v1 = some res) : V ε κ 2 32 [(0, .ref (eA ε v0)), (1, .int v1)] [] (wsOf ε S) 0 0 := by
  unfold f_X0_sellAll_32 at h
  refine V_iinc (v := (v1 + 1)) (lv' := [(1, .int (v1 + 1)), (0, .ref (eA ε v0))]) C 1 dX0_sellAll_32 rfl (congrArg _ kc_i_1) (by decide) rfl ?_
  refine V_goto C dX0_sellAll_35 rfl ?_
  refine V_sub C [1, 0] rfl ?_
  exact hK2 _ _ _ h0 h
def f_X0_sellAll_2 (N : Nat) : Nat → St → Nat → Int32 → Option St
  | 0, _, _, _ => none
  | n + 1, S, v0, v1 =>
    bnd (f_X8_size S (v0 + 10)) (fun a2 =>
     (if a2 ≤ v1 then
     some S
     else
     bnd (f_X5_at S (v0 + 17) v1) (fun a5 =>
     (if a5 = 0 then
     bnd (f_X0_offer N S v0 v1) (fun S8 =>
     f_X0_sellAll_32 N (f_X0_sellAll_2 N n) S8 v0 v1)
     else
     f_X0_sellAll_32 N (f_X0_sellAll_2 N n) S v0 v1))))
set_option maxRecDepth 20000 in
theorem v_X0_sellAll_2 {ε : eT} {κ : kT} {N : Nat} (C : Act ε κ cX0_sellAll 2 RX0 5) {res : St} (X : RI ε κ none none res) : ∀ (n : Nat) (S : St) (v0 : Nat) (v1 : Int32) (h0 : sh v0 = 9) (h : f_X0_sellAll_2 N n S v0 v1 = some res), V ε κ 2 2 [(0, .ref (eA ε v0)), (1, .int v1)] [] (wsOf ε S) 0 0 := by
  intro n
  induction n with
  | zero => intro S v0 v1 h0 h; cases h
  | succ n ih =>
    intro S v0 v1 h0 h
    rw [f_X0_sellAll_2] at h
    refine V_iload_n C 1 dX0_sellAll_2 rfl rfl ?_
    refine V_aload_n C 0 dX0_sellAll_3 rfl rfl ?_
    refine G_X9_things (q := v0) C h0 q_FL_X0_33 dX0_sellAll_4 ?_
    obtain ⟨a2, e1, h⟩ := bnd_s h
    refine W_callvi C cf_X8_size (c_X8_size (so_9_10 h0) e1) q_ML_X0_37 (ws_X8 (so_9_10 h0)) rfl dX0_sellAll_7 (by decide) rfl rfl (Nat.le_of_ble_eq_true rfl) ?_
    refine V_icmp_ge C dX0_sellAll_10 rfl (fun c3 => ?_) (fun c3 => ?_)
    · replace h := ifp c3 h
      exact V_vret C X dX0_sellAll_38 ⟨rfl, rv_2 h⟩
    · replace h := ifn c3 h
      refine V_aload_n C 0 dX0_sellAll_13 rfl rfl ?_
      refine G_X9_things (q := v0) C h0 q_FL_X0_33 dX0_sellAll_14 ?_
      refine G_X8_kept (q := (v0 + 10)) C (so_9_10 h0) q_FL_X0_88 dX0_sellAll_17 ?_
      refine V_iload_n C 1 dX0_sellAll_20 rfl rfl ?_
      obtain ⟨a5, e4, h⟩ := bnd_s h
      refine W_callvi C cf_X5_at (c_X5_at (so_9_17 h0) e4) q_ML_X0_60 (ws_X5 (so_9_17 h0)) rfl dX0_sellAll_21 (by decide) rfl rfl (Nat.le_of_ble_eq_true rfl) ?_
      refine V_if_ne C dX0_sellAll_24 rfl (fun c6 => ?_) (fun c6 => ?_)
      · replace h := ifn c6 h
        exact v_X0_sellAll_32 C X ih h0 h
      · replace h := ifp c6 h
        refine V_aload_n C 0 dX0_sellAll_27 rfl rfl ?_
        refine V_iload_n C 1 dX0_sellAll_28 rfl rfl ?_
        obtain ⟨S8, e7, h⟩ := bnd_s h
        refine W_callsn C cf_X0_offer (c_X0_offer h0 e7) q_ML_X0_91 dX0_sellAll_29 (by decide) rfl rfl (Nat.le_of_ble_eq_true rfl) ?_
        exact v_X0_sellAll_32 C X ih h0 h
def f_X0_sellAll (N : Nat) (S : St) (v0 : Nat) : Option St :=
 f_X0_sellAll_2 N N S v0 (0 : Int32)
set_option maxRecDepth 20000 in
theorem v_X0_sellAll_e {ε : eT} {κ : kT} {N : Nat} (C : Act ε κ cX0_sellAll 2 RX0 5) {S : St} {res : St} (X : RI ε κ none none res) {v0 : Nat} (h0 : sh v0 = 9) (h : f_X0_sellAll N S v0 = some res) : V ε κ 2 0 [(0, .ref (eA ε v0))] [] (wsOf ε S) 0 0 := by
  unfold f_X0_sellAll at h
  refine V_iconst C dX0_sellAll_0 kc_i_0 ?_
  refine V_istore_n (lv' := [(1, .int (0 : Int32)), (0, .ref (eA ε v0))]) C dX0_sellAll_1 rfl (by decide) rfl ?_
  refine V_sub C [1, 0] rfl ?_
  exact v_X0_sellAll_2 C X N _ _ _ h0 h
theorem c_X0_sellAll {ε : eT} {N : Nat} {S : St} {v0 : Nat} {res : St} (h0 : sh v0 = 9) (h : f_X0_sellAll N S v0 = some res) : CI ε yX0_sellAll cX0_sellAll 2 none 5 [.ref (eA ε v0)] S none res := CI_of (by decide) (Nat.le_of_ble_eq_true rfl) rfl (fun κ C X => v_X0_sellAll_e C X h0 h)
def f_X9_mendByText (N : Nat) (S : St) (v0 : Nat) (v1 : Int32) (v2 : Int32) : Option (Int32 × St) :=
 bnd (f_X7_setName S (v0 + 36) (0 : Int32) v2) (fun S2 =>
 bnd (f_X5_at S2 (v0 + 15) v1) (fun a4 =>
 bnd (f_X7_setName S2 (v0 + 36) (1 : Int32) a4) (fun S6 =>
 bnd (f_X5_at S6 (v0 + 27) (4 : Int32)) (fun a8 =>
 bnd (f_X7_setName S6 (v0 + 36) (2 : Int32) a8) (fun S10 =>
 bnd (f_X5_at S10 (v0 + 11) v1) (fun a12 =>
 bnd (f_X5_at S10 (v0 + 4) a12) (fun a14 =>
 bnd (f_X7_setName S10 (v0 + 36) (3 : Int32) a14) (fun S16 =>
 bnd (f_X5_at S16 (v0 + 27) (0 : Int32)) (fun a18 =>
 bnd (f_X7_setName S16 (v0 + 36) (4 : Int32) a18) (fun S20 =>
 bnd2 (f_X7_work N S20 (v0 + 36)) (fun a22 S23 =>
 (if a22 = 0 then
 some ((0 : Int32), S23)
 else
 some ((1 : Int32), S23)))))))))))))
set_option maxRecDepth 20000 in
theorem v_X9_mendByText_e {ε : eT} {κ : kT} {N : Nat} (C : Act ε κ cX9_mendByText 3 RX9 4) {S : St} {res : (Int32 × St)} (X : RI ε κ (some .boolean) (some (.int res.1)) res.2) {v0 : Nat} {v1 : Int32} {v2 : Int32} (h0 : sh v0 = 9) (h : f_X9_mendByText N S v0 v1 v2 = some res) : V ε κ 3 0 [(0, .ref (eA ε v0)), (1, .int v1), (2, .int v2)] [] (wsOf ε S) 0 0 := by
  unfold f_X9_mendByText at h
  refine V_aload_n C 0 dX9_mendByText_0 rfl rfl ?_
  refine G_X9_mending (q := v0) C h0 q_FL_X9_57 dX9_mendByText_1 ?_
  refine V_iconst C dX9_mendByText_4 kc_i_0 ?_
  refine V_iload_n C 2 dX9_mendByText_5 rfl rfl ?_
  obtain ⟨S2, e1, h⟩ := bnd_s h
  refine W_callvn C cf_X7_setName (c_X7_setName (so_9_36 h0) e1) q_ML_X9_154 (ws_X7 (so_9_36 h0)) rfl dX9_mendByText_6 (by decide) rfl rfl (Nat.le_of_ble_eq_true rfl) ?_
  refine V_aload_n C 0 dX9_mendByText_9 rfl rfl ?_
  refine G_X9_mending (q := v0) C h0 q_FL_X9_57 dX9_mendByText_10 ?_
  refine V_iconst C dX9_mendByText_13 kc_i_1 ?_
  refine V_aload_n C 0 dX9_mendByText_14 rfl rfl ?_
  refine G_X9_things (q := v0) C h0 q_FL_X9_21 dX9_mendByText_15 ?_
  refine G_X8_sounds (q := (v0 + 10)) C (so_9_10 h0) q_FL_X9_110 dX9_mendByText_18 ?_
  refine V_iload_n C 1 dX9_mendByText_21 rfl rfl ?_
  obtain ⟨a4, e3, h⟩ := bnd_s h
  refine W_callvi C cf_X5_at (c_X5_at (so_9_15 h0) e3) q_ML_X9_106 (ws_X5 (so_9_15 h0)) rfl dX9_mendByText_22 (by decide) rfl rfl (Nat.le_of_ble_eq_true rfl) ?_
  obtain ⟨S6, e5, h⟩ := bnd_s h
  refine W_callvn C cf_X7_setName (c_X7_setName (so_9_36 h0) e5) q_ML_X9_154 (ws_X7 (so_9_36 h0)) rfl dX9_mendByText_25 (by decide) rfl rfl (Nat.le_of_ble_eq_true rfl) ?_
  refine V_aload_n C 0 dX9_mendByText_28 rfl rfl ?_
  refine G_X9_mending (q := v0) C h0 q_FL_X9_57 dX9_mendByText_29 ?_
  refine V_iconst C dX9_mendByText_32 kc_i_2 ?_
  refine V_aload_n C 0 dX9_mendByText_33 rfl rfl ?_
  refine G_X9_rules (q := v0) C h0 q_FL_X9_40 dX9_mendByText_34 ?_
  refine V_iconst C dX9_mendByText_37 kc_i_4 ?_
  obtain ⟨a8, e7, h⟩ := bnd_s h
  refine W_callvi C cf_X5_at (c_X5_at (so_9_27 h0) e7) q_ML_X9_106 (ws_X5 (so_9_27 h0)) rfl dX9_mendByText_38 (by decide) rfl rfl (Nat.le_of_ble_eq_true rfl) ?_
  obtain ⟨S10, e9, h⟩ := bnd_s h
  refine W_callvn C cf_X7_setName (c_X7_setName (so_9_36 h0) e9) q_ML_X9_154 (ws_X7 (so_9_36 h0)) rfl dX9_mendByText_41 (by decide) rfl rfl (Nat.le_of_ble_eq_true rfl) ?_
  refine V_aload_n C 0 dX9_mendByText_44 rfl rfl ?_
  refine G_X9_mending (q := v0) C h0 q_FL_X9_57 dX9_mendByText_45 ?_
  refine V_iconst C dX9_mendByText_48 kc_i_3 ?_
  refine V_aload_n C 0 dX9_mendByText_49 rfl rfl ?_
  refine G_X9_people (q := v0) C h0 q_FL_X9_12 dX9_mendByText_50 ?_
  refine G_X3_purses (q := (v0 + 1)) C (so_9_1 h0) q_FL_X9_160 dX9_mendByText_53 ?_
  refine V_aload_n C 0 dX9_mendByText_56 rfl rfl ?_
  refine G_X9_things (q := v0) C h0 q_FL_X9_21 dX9_mendByText_57 ?_
  refine G_X8_owners (q := (v0 + 10)) C (so_9_10 h0) q_FL_X9_113 dX9_mendByText_60 ?_
  refine V_iload_n C 1 dX9_mendByText_63 rfl rfl ?_
  obtain ⟨a12, e11, h⟩ := bnd_s h
  refine W_callvi C cf_X5_at (c_X5_at (so_9_11 h0) e11) q_ML_X9_106 (ws_X5 (so_9_11 h0)) rfl dX9_mendByText_64 (by decide) rfl rfl (Nat.le_of_ble_eq_true rfl) ?_
  obtain ⟨a14, e13, h⟩ := bnd_s h
  refine W_callvi C cf_X5_at (c_X5_at (so_9_4 h0) e13) q_ML_X9_106 (ws_X5 (so_9_4 h0)) rfl dX9_mendByText_67 (by decide) rfl rfl (Nat.le_of_ble_eq_true rfl) ?_
  obtain ⟨S16, e15, h⟩ := bnd_s h
  refine W_callvn C cf_X7_setName (c_X7_setName (so_9_36 h0) e15) q_ML_X9_154 (ws_X7 (so_9_36 h0)) rfl dX9_mendByText_70 (by decide) rfl rfl (Nat.le_of_ble_eq_true rfl) ?_
  refine V_aload_n C 0 dX9_mendByText_73 rfl rfl ?_
  refine G_X9_mending (q := v0) C h0 q_FL_X9_57 dX9_mendByText_74 ?_
  refine V_iconst C dX9_mendByText_77 kc_i_4 ?_
  refine V_aload_n C 0 dX9_mendByText_78 rfl rfl ?_
  refine G_X9_rules (q := v0) C h0 q_FL_X9_40 dX9_mendByText_79 ?_
  refine V_iconst C dX9_mendByText_82 kc_i_0 ?_
  obtain ⟨a18, e17, h⟩ := bnd_s h
  refine W_callvi C cf_X5_at (c_X5_at (so_9_27 h0) e17) q_ML_X9_106 (ws_X5 (so_9_27 h0)) rfl dX9_mendByText_83 (by decide) rfl rfl (Nat.le_of_ble_eq_true rfl) ?_
  obtain ⟨S20, e19, h⟩ := bnd_s h
  refine W_callvn C cf_X7_setName (c_X7_setName (so_9_36 h0) e19) q_ML_X9_154 (ws_X7 (so_9_36 h0)) rfl dX9_mendByText_86 (by decide) rfl rfl (Nat.le_of_ble_eq_true rfl) ?_
  refine V_aload_n C 0 dX9_mendByText_89 rfl rfl ?_
  refine G_X9_mending (q := v0) C h0 q_FL_X9_57 dX9_mendByText_90 ?_
  obtain ⟨a22, S23, e21, h⟩ := bnd2_s h
  refine W_callvi C cf_X7_work (c_X7_work (so_9_36 h0) e21) q_ML_X9_157 (ws_X7 (so_9_36 h0)) rfl dX9_mendByText_93 (by decide) rfl rfl (Nat.le_of_ble_eq_true rfl) ?_
  refine V_if_eq C dX9_mendByText_96 rfl (fun c24 => ?_) (fun c24 => ?_)
  · replace h := ifp c24 h
    refine V_iconst C dX9_mendByText_103 kc_i_0 ?_
    exact V_zret C nb_0 X dX9_mendByText_104 ⟨ri_1 h, ri_2 h⟩
  · replace h := ifn c24 h
    refine V_iconst C dX9_mendByText_99 kc_i_1 ?_
    refine V_goto C dX9_mendByText_100 rfl ?_
    exact V_zret C nb_1 X dX9_mendByText_104 ⟨ri_1 h, ri_2 h⟩
theorem c_X9_mendByText {ε : eT} {N : Nat} {S : St} {v0 : Nat} {v1 : Int32} {v2 : Int32} {res : (Int32 × St)} (h0 : sh v0 = 9) (h : f_X9_mendByText N S v0 v1 v2 = some res) : CI ε yX9_mendByText cX9_mendByText 3 (some .boolean) 4 [.ref (eA ε v0), .int v1, .int v2] S (some (.int res.1)) res.2 := CI_of (by decide) (Nat.le_of_ble_eq_true rfl) rfl (fun κ C X => v_X9_mendByText_e C X h0 h)
def f_X9_wouldMend (N : Nat) (S : St) (v0 : Nat) (v1 : Int32) : Option (Int32 × St) :=
 bnd (f_X5_at S (v0 + 11) v1) (fun a2 =>
 bnd (f_X5_at S (v0 + 4) a2) (fun a4 =>
 bnd (f_X5_at S (v0 + 15) v1) (fun a6 =>
 (if (100 : Int32) ≤ a6 then
 some ((0 : Int32), S)
 else
 bnd (f_X5_at S (v0 + 27) (4 : Int32)) (fun a9 =>
 (if a9 ≤ a4 then
 bnd (f_X5_at S (v0 + 11) v1) (fun a12 =>
 bnd (f_X8_valueOf S (v0 + 10) a12 v1) (fun a14 =>
 bnd (f_X7_stands S (v0 + 36)) (fun a16 =>
 (if a16 = 0 then
 bnd (f_X5_at S (v0 + 27) (4 : Int32)) (fun a19 =>
 (if (a14 / (10 : Int32)) < a19 then
 some ((0 : Int32), S)
 else
 some ((1 : Int32), S)))
 else
 bnd2 (f_X9_mendByText N S v0 v1 a14) (fun a22 S23 =>
 (if bo a22 = true then some (a22, S23) else none))))))
 else
 some ((0 : Int32), S)))))))
set_option maxRecDepth 20000 in
theorem v_X9_wouldMend_e {ε : eT} {κ : kT} {N : Nat} (C : Act ε κ cX9_wouldMend 4 RX9 5) {S : St} {res : (Int32 × St)} (X : RI ε κ (some .boolean) (some (.int res.1)) res.2) {v0 : Nat} {v1 : Int32} (h0 : sh v0 = 9) (h : f_X9_wouldMend N S v0 v1 = some res) : V ε κ 4 0 [(0, .ref (eA ε v0)), (1, .int v1)] [] (wsOf ε S) 0 0 := by
  unfold f_X9_wouldMend at h
  refine V_aload_n C 0 dX9_wouldMend_0 rfl rfl ?_
  refine G_X9_people (q := v0) C h0 q_FL_X9_12 dX9_wouldMend_1 ?_
  refine G_X3_purses (q := (v0 + 1)) C (so_9_1 h0) q_FL_X9_160 dX9_wouldMend_4 ?_
  refine V_aload_n C 0 dX9_wouldMend_7 rfl rfl ?_
  refine G_X9_things (q := v0) C h0 q_FL_X9_21 dX9_wouldMend_8 ?_
  refine G_X8_owners (q := (v0 + 10)) C (so_9_10 h0) q_FL_X9_113 dX9_wouldMend_11 ?_
  refine V_iload_n C 1 dX9_wouldMend_14 rfl rfl ?_
  obtain ⟨a2, e1, h⟩ := bnd_s h
  refine W_callvi C cf_X5_at (c_X5_at (so_9_11 h0) e1) q_ML_X9_106 (ws_X5 (so_9_11 h0)) rfl dX9_wouldMend_15 (by decide) rfl rfl (Nat.le_of_ble_eq_true rfl) ?_
  obtain ⟨a4, e3, h⟩ := bnd_s h
  refine W_callvi C cf_X5_at (c_X5_at (so_9_4 h0) e3) q_ML_X9_106 (ws_X5 (so_9_4 h0)) rfl dX9_wouldMend_18 (by decide) rfl rfl (Nat.le_of_ble_eq_true rfl) ?_
  refine V_istore_n (lv' := [(2, .int a4), (0, .ref (eA ε v0)), (1, .int v1)]) C dX9_wouldMend_21 rfl (by decide) rfl ?_
  refine V_aload_n C 1 dX9_wouldMend_22 rfl rfl ?_
  refine G_X9_things (q := v0) C h0 q_FL_X9_21 dX9_wouldMend_23 ?_
  refine G_X8_sounds (q := (v0 + 10)) C (so_9_10 h0) q_FL_X9_110 dX9_wouldMend_26 ?_
  refine V_iload_n C 2 dX9_wouldMend_29 rfl rfl ?_
  obtain ⟨a6, e5, h⟩ := bnd_s h
  refine W_callvi C cf_X5_at (c_X5_at (so_9_15 h0) e5) q_ML_X9_106 (ws_X5 (so_9_15 h0)) rfl dX9_wouldMend_30 (by decide) rfl rfl (Nat.le_of_ble_eq_true rfl) ?_
  refine V_bipush C dX9_wouldMend_33 kc_b_100 ?_
  refine V_icmp_ge C dX9_wouldMend_35 rfl (fun c7 => ?_) (fun c7 => ?_)
  · replace h := ifp c7 h
    refine V_iconst C dX9_wouldMend_50 kc_i_0 ?_
    exact V_zret C nb_0 X dX9_wouldMend_51 ⟨ri_1 h, ri_2 h⟩
  · replace h := ifn c7 h
    refine V_iload_n C 0 dX9_wouldMend_38 rfl rfl ?_
    refine V_aload_n C 1 dX9_wouldMend_39 rfl rfl ?_
    refine G_X9_rules (q := v0) C h0 q_FL_X9_40 dX9_wouldMend_40 ?_
    refine V_iconst C dX9_wouldMend_43 kc_i_4 ?_
    obtain ⟨a9, e8, h⟩ := bnd_s h
    refine W_callvi C cf_X5_at (c_X5_at (so_9_27 h0) e8) q_ML_X9_106 (ws_X5 (so_9_27 h0)) rfl dX9_wouldMend_44 (by decide) rfl rfl (Nat.le_of_ble_eq_true rfl) ?_
    refine V_icmp_ge C dX9_wouldMend_47 rfl (fun c10 => ?_) (fun c10 => ?_)
    · replace h := ifp c10 h
      refine V_aload_n C 1 dX9_wouldMend_52 rfl rfl ?_
      refine G_X9_things (q := v0) C h0 q_FL_X9_21 dX9_wouldMend_53 ?_
      refine V_aload_n C 1 dX9_wouldMend_56 rfl rfl ?_
      refine G_X9_things (q := v0) C h0 q_FL_X9_21 dX9_wouldMend_57 ?_
      refine G_X8_owners (q := (v0 + 10)) C (so_9_10 h0) q_FL_X9_113 dX9_wouldMend_60 ?_
      refine V_iload_n C 2 dX9_wouldMend_63 rfl rfl ?_
      obtain ⟨a12, e11, h⟩ := bnd_s h
      refine W_callvi C cf_X5_at (c_X5_at (so_9_11 h0) e11) q_ML_X9_106 (ws_X5 (so_9_11 h0)) rfl dX9_wouldMend_64 (by decide) rfl rfl (Nat.le_of_ble_eq_true rfl) ?_
      refine V_iload_n C 2 dX9_wouldMend_67 rfl rfl ?_
      obtain ⟨a14, e13, h⟩ := bnd_s h
      refine W_callvi C cf_X8_valueOf (c_X8_valueOf (so_9_10 h0) e13) q_ML_X9_117 (ws_X8 (so_9_10 h0)) rfl dX9_wouldMend_68 (by decide) rfl rfl (Nat.le_of_ble_eq_true rfl) ?_
      refine V_istore_n (lv' := [(3, .int a14), (2, .int a4), (0, .ref (eA ε v0)), (1, .int v1)]) C dX9_wouldMend_71 rfl (by decide) rfl ?_
      refine V_aload_n C 2 dX9_wouldMend_72 rfl rfl ?_
      refine G_X9_mending (q := v0) C h0 q_FL_X9_57 dX9_wouldMend_73 ?_
      obtain ⟨a16, e15, h⟩ := bnd_s h
      refine W_callvi C cf_X7_stands (c_X7_stands (so_9_36 h0) e15) q_ML_X9_138 (ws_X7 (so_9_36 h0)) rfl dX9_wouldMend_76 (by decide) rfl rfl (Nat.le_of_ble_eq_true rfl) ?_
      refine V_if_eq C dX9_wouldMend_79 rfl (fun c17 => ?_) (fun c17 => ?_)
      · replace h := ifp c17 h
        refine V_iload_n C 0 dX9_wouldMend_91 rfl rfl ?_
        refine V_bipush C dX9_wouldMend_92 kc_b_10 ?_
        refine V_idiv C dX9_wouldMend_94 (by decide) ?_
        refine V_aload_n C 2 dX9_wouldMend_95 rfl rfl ?_
        refine G_X9_rules (q := v0) C h0 q_FL_X9_40 dX9_wouldMend_96 ?_
        refine V_iconst C dX9_wouldMend_99 kc_i_4 ?_
        obtain ⟨a19, e18, h⟩ := bnd_s h
        refine W_callvi C cf_X5_at (c_X5_at (so_9_27 h0) e18) q_ML_X9_106 (ws_X5 (so_9_27 h0)) rfl dX9_wouldMend_100 (by decide) rfl rfl (Nat.le_of_ble_eq_true rfl) ?_
        refine V_icmp_lt C dX9_wouldMend_103 rfl (fun c20 => ?_) (fun c20 => ?_)
        · replace h := ifp c20 h
          refine V_iconst C dX9_wouldMend_110 kc_i_0 ?_
          exact V_zret C nb_0 X dX9_wouldMend_111 ⟨ri_1 h, ri_2 h⟩
        · replace h := ifn c20 h
          refine V_iconst C dX9_wouldMend_106 kc_i_1 ?_
          refine V_goto C dX9_wouldMend_107 rfl ?_
          exact V_zret C nb_1 X dX9_wouldMend_111 ⟨ri_1 h, ri_2 h⟩
      · replace h := ifn c17 h
        refine V_aload_n C 2 dX9_wouldMend_82 rfl rfl ?_
        refine V_iload_n C 3 dX9_wouldMend_83 rfl rfl ?_
        refine V_iload_n C 0 dX9_wouldMend_84 rfl rfl ?_
        obtain ⟨a22, S23, e21, h⟩ := bnd2_s h
        refine W_callvi C cf_X9_mendByText (c_X9_mendByText h0 e21) q_ML_X9_163 (ws_X9 h0) rfl dX9_wouldMend_85 (by decide) rfl rfl (Nat.le_of_ble_eq_true rfl) ?_
        refine V_goto C dX9_wouldMend_88 rfl ?_
        obtain ⟨g24, h⟩ := gdt h
        exact V_zret C (nb_v g24) X dX9_wouldMend_111 ⟨ri_1 h, ri_2 h⟩
    · replace h := ifn c10 h
      refine V_iconst C dX9_wouldMend_50 kc_i_0 ?_
      exact V_zret C nb_0 X dX9_wouldMend_51 ⟨ri_1 h, ri_2 h⟩
theorem c_X9_wouldMend {ε : eT} {N : Nat} {S : St} {v0 : Nat} {v1 : Int32} {res : (Int32 × St)} (h0 : sh v0 = 9) (h : f_X9_wouldMend N S v0 v1 = some res) : CI ε yX9_wouldMend cX9_wouldMend 4 (some .boolean) 5 [.ref (eA ε v0), .int v1] S (some (.int res.1)) res.2 := CI_of (by decide) (Nat.le_of_ble_eq_true rfl) rfl (fun κ C X => v_X9_wouldMend_e C X h0 h)
def f_X0_mendAll_79 (N : Nat) (K2 : St → Nat → Int32 → Option St) (S : St) (v0 : Nat) (v1 : Int32) : Option St :=
 K2 S v0 (v1 + 1)
set_option maxRecDepth 20000 in
theorem v_X0_mendAll_79 {ε : eT} {κ : kT} {N : Nat} (C : Act ε κ cX0_mendAll 3 RX0 6) {S : St} {res : St} (X : RI ε κ none none res) {K2 : St → Nat → Int32 → Option St} (hK2 : ∀ (S : St) (v0 : Nat) (v1 : Int32) (_ : sh v0 = 9), K2 S v0 v1 = some res → V ε κ 3 2 [(0, .ref (eA ε v0)), (1, .int v1)] [] (wsOf ε S) 0 0) {v0 : Nat} {v1 : Int32} (h0 : sh v0 = 9) (h : f_X0_mendAll_79 N K2 S v0 v1 = some res) : V ε κ 3 79 [(0, .ref (eA ε v0)), (1, .int v1)] [] (wsOf ε S) 0 0 := by
  unfold f_X0_mendAll_79 at h
  refine V_iinc (v := (v1 + 1)) (lv' := [(1, .int (v1 + 1)), (0, .ref (eA ε v0))]) C 1 dX0_mendAll_79 rfl (congrArg _ kc_i_1) (by decide) rfl ?_
  refine V_goto C dX0_mendAll_82 rfl ?_
  refine V_sub C [1, 0] rfl ?_
  exact hK2 _ _ _ h0 h
def f_X0_mendAll_2 (N : Nat) : Nat → St → Nat → Int32 → Option St
  | 0, _, _, _ => none
  | n + 1, S, v0, v1 =>
    bnd (f_X8_size S (v0 + 10)) (fun a2 =>
     (if a2 ≤ v1 then
     some S
     else
     bnd2 (f_X9_wouldMend N S v0 v1) (fun a5 S6 =>
     (if a5 = 0 then
     f_X0_mendAll_79 N (f_X0_mendAll_2 N n) S6 v0 v1
     else
     bnd (f_X5_at S6 (v0 + 11) v1) (fun a9 =>
     bnd (f_X5_at S6 (v0 + 27) (4 : Int32)) (fun a11 =>
     bnd (f_X3_spend S6 (v0 + 1) a9 a11) (fun S13 =>
     bnd (f_X5_at S13 (v0 + 15) v1) (fun a15 =>
     bnd (f_X5_set S13 (v0 + 15) v1 (if (100 : Int32) < (a15 + (10 : Int32)) then (100 : Int32) else (a15 + (10 : Int32)))) (fun S17 =>
     f_X0_mendAll_79 N (f_X0_mendAll_2 N n) S17 v0 v1)))))))))
set_option maxRecDepth 20000 in
theorem v_X0_mendAll_2 {ε : eT} {κ : kT} {N : Nat} (C : Act ε κ cX0_mendAll 3 RX0 6) {res : St} (X : RI ε κ none none res) : ∀ (n : Nat) (S : St) (v0 : Nat) (v1 : Int32) (h0 : sh v0 = 9) (h : f_X0_mendAll_2 N n S v0 v1 = some res), V ε κ 3 2 [(0, .ref (eA ε v0)), (1, .int v1)] [] (wsOf ε S) 0 0 := by
  intro n
  induction n with
  | zero => intro S v0 v1 h0 h; cases h
  | succ n ih =>
    intro S v0 v1 h0 h
    rw [f_X0_mendAll_2] at h
    refine V_iload_n C 1 dX0_mendAll_2 rfl rfl ?_
    refine V_aload_n C 0 dX0_mendAll_3 rfl rfl ?_
    refine G_X9_things (q := v0) C h0 q_FL_X0_33 dX0_mendAll_4 ?_
    obtain ⟨a2, e1, h⟩ := bnd_s h
    refine W_callvi C cf_X8_size (c_X8_size (so_9_10 h0) e1) q_ML_X0_37 (ws_X8 (so_9_10 h0)) rfl dX0_mendAll_7 (by decide) rfl rfl (Nat.le_of_ble_eq_true rfl) ?_
    refine V_icmp_ge C dX0_mendAll_10 rfl (fun c3 => ?_) (fun c3 => ?_)
    · replace h := ifp c3 h
      exact V_vret C X dX0_mendAll_85 ⟨rfl, rv_2 h⟩
    · replace h := ifn c3 h
      refine V_aload_n C 0 dX0_mendAll_13 rfl rfl ?_
      refine V_iload_n C 1 dX0_mendAll_14 rfl rfl ?_
      obtain ⟨a5, S6, e4, h⟩ := bnd2_s h
      refine W_callvi C cf_X9_wouldMend (c_X9_wouldMend h0 e4) q_ML_X0_119 (ws_X9 h0) rfl dX0_mendAll_15 (by decide) rfl rfl (Nat.le_of_ble_eq_true rfl) ?_
      refine V_if_eq C dX0_mendAll_18 rfl (fun c7 => ?_) (fun c7 => ?_)
      · replace h := ifp c7 h
        exact v_X0_mendAll_79 C X ih h0 h
      · replace h := ifn c7 h
        refine V_aload_n C 0 dX0_mendAll_21 rfl rfl ?_
        refine G_X9_people (q := v0) C h0 q_FL_X0_66 dX0_mendAll_22 ?_
        refine V_aload_n C 0 dX0_mendAll_25 rfl rfl ?_
        refine G_X9_things (q := v0) C h0 q_FL_X0_33 dX0_mendAll_26 ?_
        refine G_X8_owners (q := (v0 + 10)) C (so_9_10 h0) q_FL_X0_57 dX0_mendAll_29 ?_
        refine V_iload_n C 1 dX0_mendAll_32 rfl rfl ?_
        obtain ⟨a9, e8, h⟩ := bnd_s h
        refine W_callvi C cf_X5_at (c_X5_at (so_9_11 h0) e8) q_ML_X0_60 (ws_X5 (so_9_11 h0)) rfl dX0_mendAll_33 (by decide) rfl rfl (Nat.le_of_ble_eq_true rfl) ?_
        refine V_aload_n C 0 dX0_mendAll_36 rfl rfl ?_
        refine G_X9_rules (q := v0) C h0 q_FL_X0_63 dX0_mendAll_37 ?_
        refine V_iconst C dX0_mendAll_40 kc_i_4 ?_
        obtain ⟨a11, e10, h⟩ := bnd_s h
        refine W_callvi C cf_X5_at (c_X5_at (so_9_27 h0) e10) q_ML_X0_60 (ws_X5 (so_9_27 h0)) rfl dX0_mendAll_41 (by decide) rfl rfl (Nat.le_of_ble_eq_true rfl) ?_
        obtain ⟨S13, e12, h⟩ := bnd_s h
        refine W_callvn C cf_X3_spend (c_X3_spend (so_9_1 h0) e12) q_ML_X0_81 (ws_X3 (so_9_1 h0)) rfl dX0_mendAll_44 (by decide) rfl rfl (Nat.le_of_ble_eq_true rfl) ?_
        refine V_aload_n C 0 dX0_mendAll_47 rfl rfl ?_
        refine G_X9_things (q := v0) C h0 q_FL_X0_33 dX0_mendAll_48 ?_
        refine G_X8_sounds (q := (v0 + 10)) C (so_9_10 h0) q_FL_X0_113 dX0_mendAll_51 ?_
        refine V_iload_n C 1 dX0_mendAll_54 rfl rfl ?_
        obtain ⟨a15, e14, h⟩ := bnd_s h
        refine W_callvi C cf_X5_at (c_X5_at (so_9_15 h0) e14) q_ML_X0_60 (ws_X5 (so_9_15 h0)) rfl dX0_mendAll_55 (by decide) rfl rfl (Nat.le_of_ble_eq_true rfl) ?_
        refine V_bipush C dX0_mendAll_58 kc_b_10 ?_
        refine V_iadd C dX0_mendAll_60 ?_
        refine V_istore_n (lv' := [(2, .int (a15 + (10 : Int32))), (0, .ref (eA ε v0)), (1, .int v1)]) C dX0_mendAll_61 rfl (by decide) rfl ?_
        refine V_aload_n C 1 dX0_mendAll_62 rfl rfl ?_
        refine G_X9_things (q := v0) C h0 q_FL_X0_33 dX0_mendAll_63 ?_
        refine G_X8_sounds (q := (v0 + 10)) C (so_9_10 h0) q_FL_X0_113 dX0_mendAll_66 ?_
        refine V_iload_n C 2 dX0_mendAll_69 rfl rfl ?_
        refine V_iload_n C 0 dX0_mendAll_70 rfl rfl ?_
        refine V_bipush C dX0_mendAll_71 kc_b_100 ?_
        refine V_mmin C q_ML_X0_75 (by decide) (Nat.le_of_ble_eq_true rfl) ⟨Nat.zero_le _, Nat.zero_le _⟩ dX0_mendAll_73 ?_
        obtain ⟨S17, e16, h⟩ := bnd_s h
        refine W_callvn C cf_X5_set (c_X5_set (so_9_15 h0) e16) q_ML_X0_51 (ws_X5 (so_9_15 h0)) rfl dX0_mendAll_76 (by decide) rfl rfl (Nat.le_of_ble_eq_true rfl) ?_
        refine V_sub C [1, 2] rfl ?_
        exact v_X0_mendAll_79 C X ih h0 h
def f_X0_mendAll (N : Nat) (S : St) (v0 : Nat) : Option St :=
 f_X0_mendAll_2 N N S v0 (0 : Int32)
set_option maxRecDepth 20000 in
theorem v_X0_mendAll_e {ε : eT} {κ : kT} {N : Nat} (C : Act ε κ cX0_mendAll 3 RX0 6) {S : St} {res : St} (X : RI ε κ none none res) {v0 : Nat} (h0 : sh v0 = 9) (h : f_X0_mendAll N S v0 = some res) : V ε κ 3 0 [(0, .ref (eA ε v0))] [] (wsOf ε S) 0 0 := by
  unfold f_X0_mendAll at h
  refine V_iconst C dX0_mendAll_0 kc_i_0 ?_
  refine V_istore_n (lv' := [(1, .int (0 : Int32)), (0, .ref (eA ε v0))]) C dX0_mendAll_1 rfl (by decide) rfl ?_
  refine V_sub C [1, 0] rfl ?_
  exact v_X0_mendAll_2 C X N _ _ _ h0 h
theorem c_X0_mendAll {ε : eT} {N : Nat} {S : St} {v0 : Nat} {res : St} (h0 : sh v0 = 9) (h : f_X0_mendAll N S v0 = some res) : CI ε yX0_mendAll cX0_mendAll 3 none 6 [.ref (eA ε v0)] S none res := CI_of (by decide) (Nat.le_of_ble_eq_true rfl) rfl (fun κ C X => v_X0_mendAll_e C X h0 h)
def f_X3_poorest_36 (N : Nat) (S : St) (K4 : Nat → Int32 → Int32 → Option Int32) (v0 : Nat) (v1 : Int32) (v2 : Int32) : Option Int32 :=
 K4 v0 v1 (v2 + 1)
set_option maxRecDepth 20000 in
theorem v_X3_poorest_36 {ε : eT} {κ : kT} {N : Nat} (C : Act ε κ cX3_poorest 3 RX3 2) {S : St} {res : Int32} (X : RI ε κ (some .int) (some (.int res)) S) {K4 : Nat → Int32 → Int32 → Option Int32} (hK4 : ∀ (v0 : Nat) (v1 : Int32) (v2 : Int32) (_ : sh v0 = 3), K4 v0 v1 v2 = some res → V ε κ 3 4 [(0, .ref (eA ε v0)), (1, .int v1), (2, .int v2)] [] (wsOf ε S) 0 0) {v0 : Nat} {v1 : Int32} {v2 : Int32} (h0 : sh v0 = 3) (h : f_X3_poorest_36 N S K4 v0 v1 v2 = some res) : V ε κ 3 36 [(0, .ref (eA ε v0)), (1, .int v1), (2, .int v2)] [] (wsOf ε S) 0 0 := by
  unfold f_X3_poorest_36 at h
  refine V_iinc (v := (v2 + 1)) (lv' := [(2, .int (v2 + 1)), (0, .ref (eA ε v0)), (1, .int v1)]) C 2 dX3_poorest_36 rfl (congrArg _ kc_i_1) (by decide) rfl ?_
  refine V_goto C dX3_poorest_39 rfl ?_
  refine V_sub C [1, 2, 0] rfl ?_
  exact hK4 _ _ _ h0 h
def f_X3_poorest_4 (N : Nat) (S : St) : Nat → Nat → Int32 → Int32 → Option Int32
  | 0, _, _, _ => none
  | n + 1, v0, v1, v2 =>
    bnd (f_X5_size S (v0 + 3)) (fun a2 =>
     (if a2 ≤ v2 then
     some v1
     else
     bnd (f_X5_at S (v0 + 3) v2) (fun a5 =>
     bnd (f_X5_at S (v0 + 3) v1) (fun a7 =>
     (if a7 ≤ a5 then
     f_X3_poorest_36 N S (f_X3_poorest_4 N S n) v0 v1 v2
     else
     f_X3_poorest_36 N S (f_X3_poorest_4 N S n) v0 v2 v2)))))
set_option maxRecDepth 20000 in
theorem v_X3_poorest_4 {ε : eT} {κ : kT} {N : Nat} (C : Act ε κ cX3_poorest 3 RX3 2) {S : St} {res : Int32} (X : RI ε κ (some .int) (some (.int res)) S) : ∀ (n : Nat) (v0 : Nat) (v1 : Int32) (v2 : Int32) (h0 : sh v0 = 3) (h : f_X3_poorest_4 N S n v0 v1 v2 = some res), V ε κ 3 4 [(0, .ref (eA ε v0)), (1, .int v1), (2, .int v2)] [] (wsOf ε S) 0 0 := by
  intro n
  induction n with
  | zero => intro v0 v1 v2 h0 h; cases h
  | succ n ih =>
    intro v0 v1 v2 h0 h
    rw [f_X3_poorest_4] at h
    refine V_iload_n C 2 dX3_poorest_4 rfl rfl ?_
    refine V_aload_n C 0 dX3_poorest_5 rfl rfl ?_
    refine G_X3_purses (q := v0) C h0 q_FL_X3_20 dX3_poorest_6 ?_
    obtain ⟨a2, e1, h⟩ := bnd_s h
    refine W_callvi C cf_X5_size (c_X5_size (so_3_3 h0) e1) q_ML_X3_29 (ws_X5 (so_3_3 h0)) rfl dX3_poorest_9 (by decide) rfl rfl (Nat.le_of_ble_eq_true rfl) ?_
    refine V_icmp_ge C dX3_poorest_12 rfl (fun c3 => ?_) (fun c3 => ?_)
    · replace h := ifp c3 h
      refine V_iload_n C 1 dX3_poorest_42 rfl rfl ?_
      exact V_iret C X dX3_poorest_43 ⟨rip_1 h, rfl⟩
    · replace h := ifn c3 h
      refine V_aload_n C 0 dX3_poorest_15 rfl rfl ?_
      refine G_X3_purses (q := v0) C h0 q_FL_X3_20 dX3_poorest_16 ?_
      refine V_iload_n C 2 dX3_poorest_19 rfl rfl ?_
      obtain ⟨a5, e4, h⟩ := bnd_s h
      refine W_callvi C cf_X5_at (c_X5_at (so_3_3 h0) e4) q_ML_X3_36 (ws_X5 (so_3_3 h0)) rfl dX3_poorest_20 (by decide) rfl rfl (Nat.le_of_ble_eq_true rfl) ?_
      refine V_aload_n C 0 dX3_poorest_23 rfl rfl ?_
      refine G_X3_purses (q := v0) C h0 q_FL_X3_20 dX3_poorest_24 ?_
      refine V_iload_n C 1 dX3_poorest_27 rfl rfl ?_
      obtain ⟨a7, e6, h⟩ := bnd_s h
      refine W_callvi C cf_X5_at (c_X5_at (so_3_3 h0) e6) q_ML_X3_36 (ws_X5 (so_3_3 h0)) rfl dX3_poorest_28 (by decide) rfl rfl (Nat.le_of_ble_eq_true rfl) ?_
      refine V_icmp_ge C dX3_poorest_31 rfl (fun c8 => ?_) (fun c8 => ?_)
      · replace h := ifp c8 h
        exact v_X3_poorest_36 C X ih h0 h
      · replace h := ifn c8 h
        refine V_iload_n C 2 dX3_poorest_34 rfl rfl ?_
        refine V_istore_n (lv' := [(1, .int v2), (0, .ref (eA ε v0)), (2, .int v2)]) C dX3_poorest_35 rfl (by decide) rfl ?_
        refine V_sub C [1, 0, 2] rfl ?_
        exact v_X3_poorest_36 C X ih h0 h
def f_X3_poorest (N : Nat) (S : St) (v0 : Nat) : Option Int32 :=
 f_X3_poorest_4 N S N v0 (0 : Int32) (1 : Int32)
set_option maxRecDepth 20000 in
theorem v_X3_poorest_e {ε : eT} {κ : kT} {N : Nat} (C : Act ε κ cX3_poorest 3 RX3 2) {S : St} {res : Int32} (X : RI ε κ (some .int) (some (.int res)) S) {v0 : Nat} (h0 : sh v0 = 3) (h : f_X3_poorest N S v0 = some res) : V ε κ 3 0 [(0, .ref (eA ε v0))] [] (wsOf ε S) 0 0 := by
  unfold f_X3_poorest at h
  refine V_iconst C dX3_poorest_0 kc_i_0 ?_
  refine V_istore_n (lv' := [(1, .int (0 : Int32)), (0, .ref (eA ε v0))]) C dX3_poorest_1 rfl (by decide) rfl ?_
  refine V_iconst C dX3_poorest_2 kc_i_1 ?_
  refine V_istore_n (lv' := [(2, .int (1 : Int32)), (1, .int (0 : Int32)), (0, .ref (eA ε v0))]) C dX3_poorest_3 rfl (by decide) rfl ?_
  refine V_sub C [2, 1, 0] rfl ?_
  exact v_X3_poorest_4 C X N _ _ _ h0 h
theorem c_X3_poorest {ε : eT} {N : Nat} {S : St} {v0 : Nat} {res : Int32} (h0 : sh v0 = 3) (h : f_X3_poorest N S v0 = some res) : CI ε yX3_poorest cX3_poorest 3 (some .int) 2 [.ref (eA ε v0)] S (some (.int res)) S := CI_of (by decide) (Nat.le_of_ble_eq_true rfl) rfl (fun κ C X => v_X3_poorest_e C X h0 h)
def f_X0_sharePot_65 (N : Nat) (S : St) (v0 : Nat) (v1 : Int32) : Option St :=
 (if v1 ≤ 0 then
 some S
 else
 bnd (f_X5_at S (v0 + 27) (2 : Int32)) (fun a3 =>
 (if a3 = (2 : Int32) then
 bnd (f_X3_poorest N S (v0 + 1)) (fun a6 =>
 bnd (f_X3_receive S (v0 + 1) a6 (S.1 v0 13)) (fun S8 =>
 some (pt S8 v0 13 (0 : Int32))))
 else
 some S)))
set_option maxRecDepth 20000 in
theorem v_X0_sharePot_65 {ε : eT} {κ : kT} {N : Nat} (C : Act ε κ cX0_sharePot 4 RX0 3) {S : St} {res : St} (X : RI ε κ none none res) {v0 : Nat} {v1 : Int32} (h0 : sh v0 = 9) (h : f_X0_sharePot_65 N S v0 v1 = some res) : V ε κ 4 65 [(0, .ref (eA ε v0)), (1, .int v1)] [] (wsOf ε S) 0 0 := by
  unfold f_X0_sharePot_65 at h
  refine V_iload_n C 1 dX0_sharePot_65 rfl rfl ?_
  refine V_if_le C dX0_sharePot_66 rfl (fun c1 => ?_) (fun c1 => ?_)
  · replace h := ifp c1 h
    exact V_vret C X dX0_sharePot_104 ⟨rfl, rv_2 h⟩
  · replace h := ifn c1 h
    refine V_aload_n C 0 dX0_sharePot_69 rfl rfl ?_
    refine G_X9_rules (q := v0) C h0 q_FL_X0_63 dX0_sharePot_70 ?_
    refine V_iconst C dX0_sharePot_73 kc_i_2 ?_
    obtain ⟨a3, e2, h⟩ := bnd_s h
    refine W_callvi C cf_X5_at (c_X5_at (so_9_27 h0) e2) q_ML_X0_60 (ws_X5 (so_9_27 h0)) rfl dX0_sharePot_74 (by decide) rfl rfl (Nat.le_of_ble_eq_true rfl) ?_
    refine V_iconst C dX0_sharePot_77 kc_i_2 ?_
    refine V_icmp_ne C dX0_sharePot_78 rfl (fun c4 => ?_) (fun c4 => ?_)
    · replace h := ifn c4 h
      exact V_vret C X dX0_sharePot_104 ⟨rfl, rv_2 h⟩
    · replace h := ifp c4 h
      refine V_aload_n C 0 dX0_sharePot_81 rfl rfl ?_
      refine G_X9_people (q := v0) C h0 q_FL_X0_66 dX0_sharePot_82 ?_
      refine V_aload_n C 0 dX0_sharePot_85 rfl rfl ?_
      refine G_X9_people (q := v0) C h0 q_FL_X0_66 dX0_sharePot_86 ?_
      obtain ⟨a6, e5, h⟩ := bnd_s h
      refine W_callvi C cf_X3_poorest (c_X3_poorest (so_9_1 h0) e5) q_ML_X0_122 (ws_X3 (so_9_1 h0)) rfl dX0_sharePot_89 (by decide) rfl rfl (Nat.le_of_ble_eq_true rfl) ?_
      refine V_aload_n C 0 dX0_sharePot_92 rfl rfl ?_
      refine G_X9_pot (q := v0) C h0 q_FL_X0_84 dX0_sharePot_93 ?_
      obtain ⟨S8, e7, h⟩ := bnd_s h
      refine W_callvn C cf_X3_receive (c_X3_receive (so_9_1 h0) e7) q_ML_X0_107 (ws_X3 (so_9_1 h0)) rfl dX0_sharePot_96 (by decide) rfl rfl (Nat.le_of_ble_eq_true rfl) ?_
      refine V_aload_n C 0 dX0_sharePot_99 rfl rfl ?_
      refine V_iconst C dX0_sharePot_100 kc_i_0 ?_
      refine P_X9_pot (q := v0) C h0 q_FL_X0_84 dX0_sharePot_101 ?_
      exact V_vret C X dX0_sharePot_104 ⟨rfl, rv_2 h⟩
def f_X0_sharePot_33 (N : Nat) : Nat → St → Nat → Int32 → Int32 → Int32 → Option St
  | 0, _, _, _, _, _ => none
  | n + 1, S, v0, v1, v2, v3 =>
    (if v1 ≤ v3 then
     f_X0_sharePot_65 N (pt S v0 13 ((S.1 v0 13) - (v2 * v1))) v0 v1
     else
     bnd (f_X3_receive S (v0 + 1) v3 v2) (fun S3 =>
     f_X0_sharePot_33 N n S3 v0 v1 v2 (v3 + 1)))
set_option maxRecDepth 20000 in
theorem v_X0_sharePot_33 {ε : eT} {κ : kT} {N : Nat} (C : Act ε κ cX0_sharePot 4 RX0 3) {res : St} (X : RI ε κ none none res) : ∀ (n : Nat) (S : St) (v0 : Nat) (v1 : Int32) (v2 : Int32) (v3 : Int32) (h0 : sh v0 = 9) (h : f_X0_sharePot_33 N n S v0 v1 v2 v3 = some res), V ε κ 4 33 [(0, .ref (eA ε v0)), (1, .int v1), (2, .int v2), (3, .int v3)] [] (wsOf ε S) 0 0 := by
  intro n
  induction n with
  | zero => intro S v0 v1 v2 v3 h0 h; cases h
  | succ n ih =>
    intro S v0 v1 v2 v3 h0 h
    rw [f_X0_sharePot_33] at h
    refine V_iload_n C 3 dX0_sharePot_33 rfl rfl ?_
    refine V_iload_n C 1 dX0_sharePot_34 rfl rfl ?_
    refine V_icmp_ge C dX0_sharePot_35 rfl (fun c1 => ?_) (fun c1 => ?_)
    · replace h := ifp c1 h
      refine V_aload_n C 0 dX0_sharePot_53 rfl rfl ?_
      refine V_dup C dX0_sharePot_54 rfl ?_
      refine G_X9_pot (q := v0) C h0 q_FL_X0_84 dX0_sharePot_55 ?_
      refine V_iload_n C 2 dX0_sharePot_58 rfl rfl ?_
      refine V_iload_n C 1 dX0_sharePot_59 rfl rfl ?_
      refine V_imul C dX0_sharePot_60 ?_
      refine V_isub C dX0_sharePot_61 ?_
      refine P_X9_pot (q := v0) C h0 q_FL_X0_84 dX0_sharePot_62 ?_
      refine V_sub C [0, 1] rfl ?_
      exact v_X0_sharePot_65 C X h0 h
    · replace h := ifn c1 h
      refine V_aload_n C 0 dX0_sharePot_38 rfl rfl ?_
      refine G_X9_people (q := v0) C h0 q_FL_X0_66 dX0_sharePot_39 ?_
      refine V_iload_n C 3 dX0_sharePot_42 rfl rfl ?_
      refine V_iload_n C 2 dX0_sharePot_43 rfl rfl ?_
      obtain ⟨S3, e2, h⟩ := bnd_s h
      refine W_callvn C cf_X3_receive (c_X3_receive (so_9_1 h0) e2) q_ML_X0_107 (ws_X3 (so_9_1 h0)) rfl dX0_sharePot_44 (by decide) rfl rfl (Nat.le_of_ble_eq_true rfl) ?_
      refine V_iinc (v := (v3 + 1)) (lv' := [(3, .int (v3 + 1)), (0, .ref (eA ε v0)), (1, .int v1), (2, .int v2)]) C 3 dX0_sharePot_47 rfl (congrArg _ kc_i_1) (by decide) rfl ?_
      refine V_goto C dX0_sharePot_50 rfl ?_
      refine V_sub C [1, 2, 3, 0] rfl ?_
      exact ih _ _ _ _ _ h0 h
def f_X0_sharePot (N : Nat) (S : St) (v0 : Nat) : Option St :=
 bnd (f_X3_size S (v0 + 1)) (fun a2 =>
 (if a2 ≤ 0 then
 f_X0_sharePot_65 N S v0 a2
 else
 bnd (f_X5_at S (v0 + 27) (2 : Int32)) (fun a5 =>
 (if a5 = (1 : Int32) then
 (if a2 = 0 then none else
 f_X0_sharePot_33 N N S v0 a2 ((S.1 v0 13) / a2) (0 : Int32))
 else
 f_X0_sharePot_65 N S v0 a2))))
set_option maxRecDepth 20000 in
theorem v_X0_sharePot_e {ε : eT} {κ : kT} {N : Nat} (C : Act ε κ cX0_sharePot 4 RX0 3) {S : St} {res : St} (X : RI ε κ none none res) {v0 : Nat} (h0 : sh v0 = 9) (h : f_X0_sharePot N S v0 = some res) : V ε κ 4 0 [(0, .ref (eA ε v0))] [] (wsOf ε S) 0 0 := by
  unfold f_X0_sharePot at h
  refine V_aload_n C 0 dX0_sharePot_0 rfl rfl ?_
  refine G_X9_people (q := v0) C h0 q_FL_X0_66 dX0_sharePot_1 ?_
  obtain ⟨a2, e1, h⟩ := bnd_s h
  refine W_callvi C cf_X3_size (c_X3_size (so_9_1 h0) e1) q_ML_X0_95 (ws_X3 (so_9_1 h0)) rfl dX0_sharePot_4 (by decide) rfl rfl (Nat.le_of_ble_eq_true rfl) ?_
  refine V_istore_n (lv' := [(1, .int a2), (0, .ref (eA ε v0))]) C dX0_sharePot_7 rfl (by decide) rfl ?_
  refine V_iload_n C 0 dX0_sharePot_8 rfl rfl ?_
  refine V_if_le C dX0_sharePot_9 rfl (fun c3 => ?_) (fun c3 => ?_)
  · replace h := ifp c3 h
    refine V_sub C [1, 0] rfl ?_
    exact v_X0_sharePot_65 C X h0 h
  · replace h := ifn c3 h
    refine V_aload_n C 1 dX0_sharePot_12 rfl rfl ?_
    refine G_X9_rules (q := v0) C h0 q_FL_X0_63 dX0_sharePot_13 ?_
    refine V_iconst C dX0_sharePot_16 kc_i_2 ?_
    obtain ⟨a5, e4, h⟩ := bnd_s h
    refine W_callvi C cf_X5_at (c_X5_at (so_9_27 h0) e4) q_ML_X0_60 (ws_X5 (so_9_27 h0)) rfl dX0_sharePot_17 (by decide) rfl rfl (Nat.le_of_ble_eq_true rfl) ?_
    refine V_iconst C dX0_sharePot_20 kc_i_1 ?_
    refine V_icmp_ne C dX0_sharePot_21 rfl (fun c6 => ?_) (fun c6 => ?_)
    · replace h := ifn c6 h
      refine V_sub C [1, 0] rfl ?_
      exact v_X0_sharePot_65 C X h0 h
    · replace h := ifp c6 h
      refine V_aload_n C 1 dX0_sharePot_24 rfl rfl ?_
      refine G_X9_pot (q := v0) C h0 q_FL_X0_84 dX0_sharePot_25 ?_
      refine V_iload_n C 0 dX0_sharePot_28 rfl rfl ?_
      obtain ⟨g7, h⟩ := gdf h
      refine V_idiv C dX0_sharePot_29 g7 ?_
      refine V_istore_n (lv' := [(2, .int ((S.1 v0 13) / a2)), (1, .int a2), (0, .ref (eA ε v0))]) C dX0_sharePot_30 rfl (by decide) rfl ?_
      refine V_iconst C dX0_sharePot_31 kc_i_0 ?_
      refine V_istore_n (lv' := [(3, .int (0 : Int32)), (2, .int ((S.1 v0 13) / a2)), (1, .int a2), (0, .ref (eA ε v0))]) C dX0_sharePot_32 rfl (by decide) rfl ?_
      refine V_sub C [3, 2, 1, 0] rfl ?_
      exact v_X0_sharePot_33 C X N _ _ _ _ _ h0 h
theorem c_X0_sharePot {ε : eT} {N : Nat} {S : St} {v0 : Nat} {res : St} (h0 : sh v0 = 9) (h : f_X0_sharePot N S v0 = some res) : CI ε yX0_sharePot cX0_sharePot 4 none 3 [.ref (eA ε v0)] S none res := CI_of (by decide) (Nat.le_of_ble_eq_true rfl) rfl (fun κ C X => v_X0_sharePot_e C X h0 h)
def f_X0_goBy_2 (N : Nat) : Nat → St → Nat → Int32 → Int32 → Option St
  | 0, _, _, _, _ => none
  | n + 1, S, v0, v1, v2 =>
    (if v1 ≤ v2 then
     some S
     else
     bnd (f_X0_nameAll N S v0) (fun S3 =>
     bnd (f_X0_payAll N S3 v0) (fun S5 =>
     bnd (f_X0_sellAll N S5 v0) (fun S7 =>
     bnd (f_X0_mendAll N S7 v0) (fun S9 =>
     bnd (f_X0_sharePot N S9 v0) (fun S11 =>
     f_X0_goBy_2 N n (pt S11 v0 11 ((S11.1 v0 11) + (1 : Int32))) v0 v1 (v2 + 1)))))))
set_option maxRecDepth 20000 in
theorem v_X0_goBy_2 {ε : eT} {κ : kT} {N : Nat} (C : Act ε κ cX0_goBy 3 RX0 7) {res : St} (X : RI ε κ none none res) : ∀ (n : Nat) (S : St) (v0 : Nat) (v1 : Int32) (v2 : Int32) (h0 : sh v0 = 9) (h : f_X0_goBy_2 N n S v0 v1 v2 = some res), V ε κ 3 2 [(0, .ref (eA ε v0)), (1, .int v1), (2, .int v2)] [] (wsOf ε S) 0 0 := by
  intro n
  induction n with
  | zero => intro S v0 v1 v2 h0 h; cases h
  | succ n ih =>
    intro S v0 v1 v2 h0 h
    rw [f_X0_goBy_2] at h
    refine V_iload_n C 2 dX0_goBy_2 rfl rfl ?_
    refine V_iload_n C 1 dX0_goBy_3 rfl rfl ?_
    refine V_icmp_ge C dX0_goBy_4 rfl (fun c1 => ?_) (fun c1 => ?_)
    · replace h := ifp c1 h
      exact V_vret C X dX0_goBy_43 ⟨rfl, rv_2 h⟩
    · replace h := ifn c1 h
      refine V_aload_n C 0 dX0_goBy_7 rfl rfl ?_
      obtain ⟨S3, e2, h⟩ := bnd_s h
      refine W_callsn C cf_X0_nameAll (c_X0_nameAll h0 e2) q_ML_X0_9 dX0_goBy_8 (by decide) rfl rfl (Nat.le_of_ble_eq_true rfl) ?_
      refine V_aload_n C 0 dX0_goBy_11 rfl rfl ?_
      obtain ⟨S5, e4, h⟩ := bnd_s h
      refine W_callsn C cf_X0_payAll (c_X0_payAll h0 e4) q_ML_X0_15 dX0_goBy_12 (by decide) rfl rfl (Nat.le_of_ble_eq_true rfl) ?_
      refine V_aload_n C 0 dX0_goBy_15 rfl rfl ?_
      obtain ⟨S7, e6, h⟩ := bnd_s h
      refine W_callsn C cf_X0_sellAll (c_X0_sellAll h0 e6) q_ML_X0_18 dX0_goBy_16 (by decide) rfl rfl (Nat.le_of_ble_eq_true rfl) ?_
      refine V_aload_n C 0 dX0_goBy_19 rfl rfl ?_
      obtain ⟨S9, e8, h⟩ := bnd_s h
      refine W_callsn C cf_X0_mendAll (c_X0_mendAll h0 e8) q_ML_X0_21 dX0_goBy_20 (by decide) rfl rfl (Nat.le_of_ble_eq_true rfl) ?_
      refine V_aload_n C 0 dX0_goBy_23 rfl rfl ?_
      obtain ⟨S11, e10, h⟩ := bnd_s h
      refine W_callsn C cf_X0_sharePot (c_X0_sharePot h0 e10) q_ML_X0_24 dX0_goBy_24 (by decide) rfl rfl (Nat.le_of_ble_eq_true rfl) ?_
      refine V_aload_n C 0 dX0_goBy_27 rfl rfl ?_
      refine V_dup C dX0_goBy_28 rfl ?_
      refine G_X9_years (q := v0) C h0 q_FL_X0_27 dX0_goBy_29 ?_
      refine V_iconst C dX0_goBy_32 kc_i_1 ?_
      refine V_iadd C dX0_goBy_33 ?_
      refine P_X9_years (q := v0) C h0 q_FL_X0_27 dX0_goBy_34 ?_
      refine V_iinc (v := (v2 + 1)) (lv' := [(2, .int (v2 + 1)), (0, .ref (eA ε v0)), (1, .int v1)]) C 2 dX0_goBy_37 rfl (congrArg _ kc_i_1) (by decide) rfl ?_
      refine V_goto C dX0_goBy_40 rfl ?_
      refine V_sub C [1, 2, 0] rfl ?_
      exact ih _ _ _ _ h0 h
def f_X0_goBy (N : Nat) (S : St) (v0 : Nat) (v1 : Int32) : Option St :=
 f_X0_goBy_2 N N S v0 v1 (0 : Int32)
set_option maxRecDepth 20000 in
theorem v_X0_goBy_e {ε : eT} {κ : kT} {N : Nat} (C : Act ε κ cX0_goBy 3 RX0 7) {S : St} {res : St} (X : RI ε κ none none res) {v0 : Nat} {v1 : Int32} (h0 : sh v0 = 9) (h : f_X0_goBy N S v0 v1 = some res) : V ε κ 3 0 [(0, .ref (eA ε v0)), (1, .int v1)] [] (wsOf ε S) 0 0 := by
  unfold f_X0_goBy at h
  refine V_iconst C dX0_goBy_0 kc_i_0 ?_
  refine V_istore_n (lv' := [(2, .int (0 : Int32)), (0, .ref (eA ε v0)), (1, .int v1)]) C dX0_goBy_1 rfl (by decide) rfl ?_
  refine V_sub C [1, 2, 0] rfl ?_
  exact v_X0_goBy_2 C X N _ _ _ _ h0 h
theorem c_X0_goBy {ε : eT} {N : Nat} {S : St} {v0 : Nat} {v1 : Int32} {res : St} (h0 : sh v0 = 9) (h : f_X0_goBy N S v0 v1 = some res) : CI ε yX0_goBy cX0_goBy 3 none 7 [.ref (eA ε v0), .int v1] S none res := CI_of (by decide) (Nat.le_of_ble_eq_true rfl) rfl (fun κ C X => v_X0_goBy_e C X h0 h)
def f_X1_above (S : St) (v0 : Int32) : Option Int32 :=
 (if v0 < 0 then
 some (-1 : Int32)
 else
 (if (Int32.ofNat 7) ≤ v0 then
 some (-1 : Int32)
 else
 (if inb v0 7 = true then
 some (kAb v0.toNatClampNeg)
 else none)))
set_option maxRecDepth 20000 in
theorem v_X1_above_e {ε : eT} {κ : kT} (C : Act ε κ cX1_above 1 RX1 1) {S : St} {res : Int32} (X : RI ε κ (some .int) (some (.int res)) S) {v0 : Int32} (h : f_X1_above S v0 = some res) : V ε κ 1 0 [(0, .int v0)] [] (wsOf ε S) 0 0 := by
  unfold f_X1_above at h
  refine V_iload_n C 0 dX1_above_0 rfl rfl ?_
  refine V_if_lt C dX1_above_1 rfl (fun c1 => ?_) (fun c1 => ?_)
  · replace h := ifp c1 h
    refine V_iconst C dX1_above_20 kc_i_m1 ?_
    exact V_iret C X dX1_above_21 ⟨rip_1 h, rfl⟩
  · replace h := ifn c1 h
    refine V_iload_n C 0 dX1_above_4 rfl rfl ?_
    refine V_gets C C.2.2.2.2.1.1 q_FL_X1_7 dX1_above_5 ?_
    refine V_tlen C C.2.2.2.2.1.2.1 dX1_above_8 ?_
    refine V_icmp_ge C dX1_above_9 rfl (fun c2 => ?_) (fun c2 => ?_)
    · replace h := ifp c2 h
      refine V_iconst C dX1_above_20 kc_i_m1 ?_
      exact V_iret C X dX1_above_21 ⟨rip_1 h, rfl⟩
    · replace h := ifn c2 h
      refine V_gets C C.2.2.2.2.1.1 q_FL_X1_7 dX1_above_12 ?_
      refine V_iload_n C 0 dX1_above_15 rfl rfl ?_
      obtain ⟨g3, h⟩ := gdt h
      refine V_ti C C.2.2.2.2.1.2.1 (inb_in g3) dX1_above_16 ?_
      refine V_goto C dX1_above_17 rfl ?_
      exact V_iret C X dX1_above_21 ⟨rip_1 h, rfl⟩
theorem c_X1_above {ε : eT} {S : St} {v0 : Int32} {res : Int32} (h : f_X1_above S v0 = some res) : CI ε yX1_above cX1_above 1 (some .int) 1 [.int v0] S (some (.int res)) S := CI_of (by decide) (Nat.le_of_ble_eq_true rfl) rfl (fun κ C X => v_X1_above_e C X h)
def f_X1_isOne (S : St) (v0 : Int32) : Option Int32 :=
 (if v0 < 0 then
 some (0 : Int32)
 else
 (if (Int32.ofNat 7) ≤ v0 then
 some (0 : Int32)
 else
 some (1 : Int32)))
set_option maxRecDepth 20000 in
theorem v_X1_isOne_e {ε : eT} {κ : kT} (C : Act ε κ cX1_isOne 1 RX1 1) {S : St} {res : Int32} (X : RI ε κ (some .boolean) (some (.int res)) S) {v0 : Int32} (h : f_X1_isOne S v0 = some res) : V ε κ 1 0 [(0, .int v0)] [] (wsOf ε S) 0 0 := by
  unfold f_X1_isOne at h
  refine V_iload_n C 0 dX1_isOne_0 rfl rfl ?_
  refine V_if_lt C dX1_isOne_1 rfl (fun c1 => ?_) (fun c1 => ?_)
  · replace h := ifp c1 h
    refine V_iconst C dX1_isOne_16 kc_i_0 ?_
    exact V_zret C nb_0 X dX1_isOne_17 ⟨rip_1 h, rfl⟩
  · replace h := ifn c1 h
    refine V_iload_n C 0 dX1_isOne_4 rfl rfl ?_
    refine V_gets C C.2.2.2.2.1.1 q_FL_X1_7 dX1_isOne_5 ?_
    refine V_tlen C C.2.2.2.2.1.2.1 dX1_isOne_8 ?_
    refine V_icmp_ge C dX1_isOne_9 rfl (fun c2 => ?_) (fun c2 => ?_)
    · replace h := ifp c2 h
      refine V_iconst C dX1_isOne_16 kc_i_0 ?_
      exact V_zret C nb_0 X dX1_isOne_17 ⟨rip_1 h, rfl⟩
    · replace h := ifn c2 h
      refine V_iconst C dX1_isOne_12 kc_i_1 ?_
      refine V_goto C dX1_isOne_13 rfl ?_
      exact V_zret C nb_1 X dX1_isOne_17 ⟨rip_1 h, rfl⟩
theorem c_X1_isOne {ε : eT} {S : St} {v0 : Int32} {res : Int32} (h : f_X1_isOne S v0 = some res) : CI ε yX1_isOne cX1_isOne 1 (some .boolean) 1 [.int v0] S (some (.int res)) S := CI_of (by decide) (Nat.le_of_ble_eq_true rfl) rfl (fun κ C X => v_X1_isOne_e C X h)
def f_X1_isUnder_4 (N : Nat) (S : St) : Nat → Int32 → Int32 → Int32 → Option Int32
  | 0, _, _, _ => none
  | n + 1, v1, v2, v3 =>
    (if (3 : Int32) ≤ v3 then
     some (0 : Int32)
     else
     (if v2 = v1 then
     some (1 : Int32)
     else
     bnd (f_X1_above S v2) (fun a4 =>
     f_X1_isUnder_4 N S n v1 a4 (v3 + 1))))
set_option maxRecDepth 20000 in
theorem v_X1_isUnder_4 {ε : eT} {κ : kT} {N : Nat} (C : Act ε κ cX1_isUnder 4 RX1 2) {S : St} {res : Int32} (X : RI ε κ (some .boolean) (some (.int res)) S) : ∀ (n : Nat) (v1 : Int32) (v2 : Int32) (v3 : Int32) (h : f_X1_isUnder_4 N S n v1 v2 v3 = some res), V ε κ 4 4 [(1, .int v1), (2, .int v2), (3, .int v3)] [] (wsOf ε S) 0 0 := by
  intro n
  induction n with
  | zero => intro v1 v2 v3 h; cases h
  | succ n ih =>
    intro v1 v2 v3 h
    rw [f_X1_isUnder_4] at h
    refine V_iload_n C 2 dX1_isUnder_4 rfl rfl ?_
    refine V_iconst C dX1_isUnder_5 kc_i_3 ?_
    refine V_icmp_ge C dX1_isUnder_6 rfl (fun c1 => ?_) (fun c1 => ?_)
    · replace h := ifp c1 h
      refine V_iconst C dX1_isUnder_27 kc_i_0 ?_
      exact V_zret C nb_0 X dX1_isUnder_28 ⟨rip_1 h, rfl⟩
    · replace h := ifn c1 h
      refine V_iload_n C 1 dX1_isUnder_9 rfl rfl ?_
      refine V_iload_n C 0 dX1_isUnder_10 rfl rfl ?_
      refine V_icmp_ne C dX1_isUnder_11 rfl (fun c2 => ?_) (fun c2 => ?_)
      · replace h := ifn c2 h
        refine V_iload_n C 1 dX1_isUnder_16 rfl rfl ?_
        obtain ⟨a4, e3, h⟩ := bnd_s h
        refine W_callsi C cf_X1_above (c_X1_above e3) q_ML_X1_13 dX1_isUnder_17 (by decide) rfl rfl (Nat.le_of_ble_eq_true rfl) ?_
        refine V_istore_n (lv' := [(2, .int a4), (1, .int v1), (3, .int v3)]) C dX1_isUnder_20 rfl (by decide) rfl ?_
        refine V_iinc (v := (v3 + 1)) (lv' := [(3, .int (v3 + 1)), (2, .int a4), (1, .int v1)]) C 2 dX1_isUnder_21 rfl (congrArg _ kc_i_1) (by decide) rfl ?_
        refine V_goto C dX1_isUnder_24 rfl ?_
        refine V_sub C [2, 1, 0] rfl ?_
        exact ih _ _ _ h
      · replace h := ifp c2 h
        refine V_iconst C dX1_isUnder_14 kc_i_1 ?_
        exact V_zret C nb_1 X dX1_isUnder_15 ⟨rip_1 h, rfl⟩
def f_X1_isUnder (N : Nat) (S : St) (v0 : Int32) (v1 : Int32) : Option Int32 :=
 f_X1_isUnder_4 N S N v1 v0 (0 : Int32)
set_option maxRecDepth 20000 in
theorem v_X1_isUnder_e {ε : eT} {κ : kT} {N : Nat} (C : Act ε κ cX1_isUnder 4 RX1 2) {S : St} {res : Int32} (X : RI ε κ (some .boolean) (some (.int res)) S) {v0 : Int32} {v1 : Int32} (h : f_X1_isUnder N S v0 v1 = some res) : V ε κ 4 0 [(0, .int v0), (1, .int v1)] [] (wsOf ε S) 0 0 := by
  unfold f_X1_isUnder at h
  refine V_iload_n C 0 dX1_isUnder_0 rfl rfl ?_
  refine V_istore_n (lv' := [(2, .int v0), (0, .int v0), (1, .int v1)]) C dX1_isUnder_1 rfl (by decide) rfl ?_
  refine V_iconst C dX1_isUnder_2 kc_i_0 ?_
  refine V_istore_n (lv' := [(3, .int (0 : Int32)), (2, .int v0), (0, .int v0), (1, .int v1)]) C dX1_isUnder_3 rfl (by decide) rfl ?_
  refine V_sub C [3, 1, 0] rfl ?_
  exact v_X1_isUnder_4 C X N _ _ _ h
theorem c_X1_isUnder {ε : eT} {N : Nat} {S : St} {v0 : Int32} {v1 : Int32} {res : Int32} (h : f_X1_isUnder N S v0 v1 = some res) : CI ε yX1_isUnder cX1_isUnder 4 (some .boolean) 2 [.int v0, .int v1] S (some (.int res)) S := CI_of (by decide) (Nat.le_of_ble_eq_true rfl) rfl (fun κ C X => v_X1_isUnder_e C X h)
def f_X5_take_18 (S : St) (v0 : Nat) (v1 : Nat) (v2 : Int32) (v3 : Int32) (v4 : Int32) (s0 : Int32) : Option St :=
 (if s0 = 0 then
 some S
 else
 (if ((Int32.ofNat (ln (v1 + 1))) - v4) < v2 then
 some S
 else
 (if ((Int32.ofNat (ln (v0 + 1))) - v4) < v3 then
 some S
 else
 (if cpok v2 v3 v4 (ln (v1 + 1)) (ln (v0 + 1)) = true then
 some (pa S (v0 + 1) (va_cpy (S.1 (v1 + 1)) (S.1 (v0 + 1)) v2.toNatClampNeg v3.toNatClampNeg v4.toNatClampNeg))
 else none))))
set_option maxRecDepth 20000 in
theorem v_X5_take_18 {ε : eT} {κ : kT} (C : Act ε κ cX5_take 6 RX5 1) {S : St} {res : St} (X : RI ε κ none none res) {v0 : Nat} {v1 : Nat} {v2 : Int32} {v3 : Int32} {v4 : Int32} {s0 : Int32} (h0 : sh v0 = 5) (h1 : sh v1 = 5) (h : f_X5_take_18 S v0 v1 v2 v3 v4 s0 = some res) : V ε κ 6 18 [(0, .ref (eA ε v0)), (1, .ref (eA ε v1)), (2, .int v2), (3, .int v3), (4, .int v4)] [.int s0] (wsOf ε S) 0 0 := by
  unfold f_X5_take_18 at h
  refine V_istore (lv' := [(5, .int s0), (0, .ref (eA ε v0)), (1, .ref (eA ε v1)), (2, .int v2), (3, .int v3), (4, .int v4)]) C dX5_take_18 (by decide) rfl ?_
  refine V_iload C 0 dX5_take_20 rfl ?_
  refine V_if_eq C dX5_take_22 rfl (fun c1 => ?_) (fun c1 => ?_)
  · replace h := ifp c1 h
    exact V_vret C X dX5_take_64 ⟨rfl, rv_2 h⟩
  · replace h := ifn c1 h
    refine V_iload_n C 3 dX5_take_25 rfl rfl ?_
    refine V_aload_n C 2 dX5_take_26 rfl rfl ?_
    refine G_X5_numbers (q := v1) C h1 q_FL_X5_13 dX5_take_27 ?_
    refine W_alen (q := (v1 + 1)) C (so_5_1 h1) dX5_take_30 ?_
    refine V_iload C 5 dX5_take_31 rfl ?_
    refine V_isub C dX5_take_33 ?_
    refine V_icmp_gt C dX5_take_34 rfl (fun c2 => ?_) (fun c2 => ?_)
    · replace h := ifp c2 h
      exact V_vret C X dX5_take_64 ⟨rfl, rv_2 h⟩
    · replace h := ifn c2 h
      refine V_iload_n C 4 dX5_take_37 rfl rfl ?_
      refine V_aload_n C 1 dX5_take_38 rfl rfl ?_
      refine G_X5_numbers (q := v0) C h0 q_FL_X5_13 dX5_take_39 ?_
      refine W_alen (q := (v0 + 1)) C (so_5_1 h0) dX5_take_42 ?_
      refine V_iload C 5 dX5_take_43 rfl ?_
      refine V_isub C dX5_take_45 ?_
      refine V_icmp_gt C dX5_take_46 rfl (fun c3 => ?_) (fun c3 => ?_)
      · replace h := ifp c3 h
        exact V_vret C X dX5_take_64 ⟨rfl, rv_2 h⟩
      · replace h := ifn c3 h
        refine V_aload_n C 2 dX5_take_49 rfl rfl ?_
        refine G_X5_numbers (q := v1) C h1 q_FL_X5_13 dX5_take_50 ?_
        refine V_iload_n C 3 dX5_take_53 rfl rfl ?_
        refine V_aload_n C 1 dX5_take_54 rfl rfl ?_
        refine G_X5_numbers (q := v0) C h0 q_FL_X5_13 dX5_take_55 ?_
        refine V_iload_n C 4 dX5_take_58 rfl rfl ?_
        refine V_iload C 5 dX5_take_59 rfl ?_
        obtain ⟨g4, h⟩ := gdt h
        obtain ⟨g4a, g4b, g4c, g4d, g4e⟩ := cpok_s g4
        refine W_copyi (q := (v1 + 1)) (q1 := (v0 + 1)) C (so_5_1 h1) (so_5_1 h0) q_ML_X5_38 (by decide) g4a g4b g4c g4d g4e (Nat.le_of_ble_eq_true rfl) dX5_take_61 ?_
        exact V_vret C X dX5_take_64 ⟨rfl, rv_2 h⟩
def f_X5_take_17 (S : St) (v0 : Nat) (v1 : Nat) (v2 : Int32) (v3 : Int32) (v4 : Int32) : Option St :=
 f_X5_take_18 S v0 v1 v2 v3 v4 (0 : Int32)
set_option maxRecDepth 20000 in
theorem v_X5_take_17 {ε : eT} {κ : kT} (C : Act ε κ cX5_take 6 RX5 1) {S : St} {res : St} (X : RI ε κ none none res) {v0 : Nat} {v1 : Nat} {v2 : Int32} {v3 : Int32} {v4 : Int32} (h0 : sh v0 = 5) (h1 : sh v1 = 5) (h : f_X5_take_17 S v0 v1 v2 v3 v4 = some res) : V ε κ 6 17 [(0, .ref (eA ε v0)), (1, .ref (eA ε v1)), (2, .int v2), (3, .int v3), (4, .int v4)] [] (wsOf ε S) 0 0 := by
  unfold f_X5_take_17 at h
  refine V_iconst C dX5_take_17 kc_i_0 ?_
  exact v_X5_take_18 C X h0 h1 h
def f_X5_take (S : St) (v0 : Nat) (v1 : Nat) (v2 : Int32) (v3 : Int32) (v4 : Int32) : Option St :=
 (if v4 ≤ 0 then
 f_X5_take_17 S v0 v1 v2 v3 v4
 else
 (if v2 < 0 then
 f_X5_take_17 S v0 v1 v2 v3 v4
 else
 (if v3 < 0 then
 f_X5_take_17 S v0 v1 v2 v3 v4
 else
 f_X5_take_18 S v0 v1 v2 v3 v4 (1 : Int32))))
set_option maxRecDepth 20000 in
theorem v_X5_take_e {ε : eT} {κ : kT} (C : Act ε κ cX5_take 6 RX5 1) {S : St} {res : St} (X : RI ε κ none none res) {v0 : Nat} {v1 : Nat} {v2 : Int32} {v3 : Int32} {v4 : Int32} (h0 : sh v0 = 5) (h1 : sh v1 = 5) (h : f_X5_take S v0 v1 v2 v3 v4 = some res) : V ε κ 6 0 [(0, .ref (eA ε v0)), (1, .ref (eA ε v1)), (2, .int v2), (3, .int v3), (4, .int v4)] [] (wsOf ε S) 0 0 := by
  unfold f_X5_take at h
  refine V_iload C 4 dX5_take_0 rfl ?_
  refine V_if_le C dX5_take_2 rfl (fun c1 => ?_) (fun c1 => ?_)
  · replace h := ifp c1 h
    exact v_X5_take_17 C X h0 h1 h
  · replace h := ifn c1 h
    refine V_iload_n C 2 dX5_take_5 rfl rfl ?_
    refine V_if_lt C dX5_take_6 rfl (fun c2 => ?_) (fun c2 => ?_)
    · replace h := ifp c2 h
      exact v_X5_take_17 C X h0 h1 h
    · replace h := ifn c2 h
      refine V_iload_n C 3 dX5_take_9 rfl rfl ?_
      refine V_if_lt C dX5_take_10 rfl (fun c3 => ?_) (fun c3 => ?_)
      · replace h := ifp c3 h
        exact v_X5_take_17 C X h0 h1 h
      · replace h := ifn c3 h
        refine V_iconst C dX5_take_13 kc_i_1 ?_
        refine V_goto C dX5_take_14 rfl ?_
        exact v_X5_take_18 C X h0 h1 h
theorem c_X5_take {ε : eT} {S : St} {v0 : Nat} {v1 : Nat} {v2 : Int32} {v3 : Int32} {v4 : Int32} {res : St} (h0 : sh v0 = 5) (h1 : sh v1 = 5) (h : f_X5_take S v0 v1 v2 v3 v4 = some res) : CI ε yX5_take cX5_take 6 none 1 [.ref (eA ε v0), .ref (eA ε v1), .int v2, .int v3, .int v4] S none res := CI_of (by decide) (Nat.le_of_ble_eq_true rfl) rfl (fun κ C X => v_X5_take_e C X h0 h1 h)
def f_X5_copy (S : St) (v0 : Nat) (v1 : Nat) : Option St :=
 bnd (f_X5_take (pt S v0 1 (if (Int32.ofNat (ln (v0 + 1))) < (S.1 v1 1) then (Int32.ofNat (ln (v0 + 1))) else (S.1 v1 1))) v0 v1 (0 : Int32) (0 : Int32) ((pt S v0 1 (if (Int32.ofNat (ln (v0 + 1))) < (S.1 v1 1) then (Int32.ofNat (ln (v0 + 1))) else (S.1 v1 1))).1 v0 1)) (fun S2 =>
 some S2)
set_option maxRecDepth 20000 in
theorem v_X5_copy_e {ε : eT} {κ : kT} (C : Act ε κ cX5_copy 2 RX5 2) {S : St} {res : St} (X : RI ε κ none none res) {v0 : Nat} {v1 : Nat} (h0 : sh v0 = 5) (h1 : sh v1 = 5) (h : f_X5_copy S v0 v1 = some res) : V ε κ 2 0 [(0, .ref (eA ε v0)), (1, .ref (eA ε v1))] [] (wsOf ε S) 0 0 := by
  unfold f_X5_copy at h
  refine V_aload_n C 0 dX5_copy_0 rfl rfl ?_
  refine V_aload_n C 1 dX5_copy_1 rfl rfl ?_
  refine G_X5_size (q := v1) C h1 q_FL_X5_19 dX5_copy_2 ?_
  refine V_aload_n C 0 dX5_copy_5 rfl rfl ?_
  refine G_X5_numbers (q := v0) C h0 q_FL_X5_13 dX5_copy_6 ?_
  refine W_alen (q := (v0 + 1)) C (so_5_1 h0) dX5_copy_9 ?_
  refine V_mmin C q_ML_X5_31 (by decide) (Nat.le_of_ble_eq_true rfl) ⟨Nat.zero_le _, Nat.zero_le _⟩ dX5_copy_10 ?_
  refine P_X5_size (q := v0) C h0 q_FL_X5_19 dX5_copy_13 ?_
  refine V_aload_n C 0 dX5_copy_16 rfl rfl ?_
  refine V_aload_n C 1 dX5_copy_17 rfl rfl ?_
  refine V_iconst C dX5_copy_18 kc_i_0 ?_
  refine V_iconst C dX5_copy_19 kc_i_0 ?_
  refine V_aload_n C 0 dX5_copy_20 rfl rfl ?_
  refine G_X5_size (q := v0) C h0 q_FL_X5_19 dX5_copy_21 ?_
  obtain ⟨S2, e1, h⟩ := bnd_s h
  refine W_callvn C cf_X5_take (c_X5_take h0 h1 e1) q_ML_X5_34 (ws_X5 h0) rfl dX5_copy_24 (by decide) rfl rfl (Nat.le_of_ble_eq_true rfl) ?_
  exact V_vret C X dX5_copy_27 ⟨rfl, rv_2 h⟩
theorem c_X5_copy {ε : eT} {S : St} {v0 : Nat} {v1 : Nat} {res : St} (h0 : sh v0 = 5) (h1 : sh v1 = 5) (h : f_X5_copy S v0 v1 = some res) : CI ε yX5_copy cX5_copy 2 none 2 [.ref (eA ε v0), .ref (eA ε v1)] S none res := CI_of (by decide) (Nat.le_of_ble_eq_true rfl) rfl (fun κ C X => v_X5_copy_e C X h0 h1 h)
def f_X3_copy (S : St) (v0 : Nat) (v1 : Nat) : Option St :=
 bnd (f_X5_copy S (v0 + 1) (v1 + 1)) (fun S2 =>
 bnd (f_X5_copy S2 (v0 + 3) (v1 + 3)) (fun S4 =>
 bnd (f_X5_copy S4 (v0 + 5) (v1 + 5)) (fun S6 =>
 bnd (f_X5_copy S6 (v0 + 7) (v1 + 7)) (fun S8 =>
 some S8))))
set_option maxRecDepth 20000 in
theorem v_X3_copy_e {ε : eT} {κ : kT} (C : Act ε κ cX3_copy 2 RX3 3) {S : St} {res : St} (X : RI ε κ none none res) {v0 : Nat} {v1 : Nat} (h0 : sh v0 = 3) (h1 : sh v1 = 3) (h : f_X3_copy S v0 v1 = some res) : V ε κ 2 0 [(0, .ref (eA ε v0)), (1, .ref (eA ε v1))] [] (wsOf ε S) 0 0 := by
  unfold f_X3_copy at h
  refine V_aload_n C 0 dX3_copy_0 rfl rfl ?_
  refine G_X3_kinds (q := v0) C h0 q_FL_X3_14 dX3_copy_1 ?_
  refine V_aload_n C 1 dX3_copy_4 rfl rfl ?_
  refine G_X3_kinds (q := v1) C h1 q_FL_X3_14 dX3_copy_5 ?_
  obtain ⟨S2, e1, h⟩ := bnd_s h
  refine W_callvn C cf_X5_copy (c_X5_copy (so_3_1 h0) (so_3_1 h1) e1) q_ML_X3_51 (ws_X5 (so_3_1 h0)) rfl dX3_copy_8 (by decide) rfl rfl (Nat.le_of_ble_eq_true rfl) ?_
  refine V_aload_n C 0 dX3_copy_11 rfl rfl ?_
  refine G_X3_purses (q := v0) C h0 q_FL_X3_20 dX3_copy_12 ?_
  refine V_aload_n C 1 dX3_copy_15 rfl rfl ?_
  refine G_X3_purses (q := v1) C h1 q_FL_X3_20 dX3_copy_16 ?_
  obtain ⟨S4, e3, h⟩ := bnd_s h
  refine W_callvn C cf_X5_copy (c_X5_copy (so_3_3 h0) (so_3_3 h1) e3) q_ML_X3_51 (ws_X5 (so_3_3 h0)) rfl dX3_copy_19 (by decide) rfl rfl (Nat.le_of_ble_eq_true rfl) ?_
  refine V_aload_n C 0 dX3_copy_22 rfl rfl ?_
  refine G_X3_chances (q := v0) C h0 q_FL_X3_23 dX3_copy_23 ?_
  refine V_aload_n C 1 dX3_copy_26 rfl rfl ?_
  refine G_X3_chances (q := v1) C h1 q_FL_X3_23 dX3_copy_27 ?_
  obtain ⟨S6, e5, h⟩ := bnd_s h
  refine W_callvn C cf_X5_copy (c_X5_copy (so_3_5 h0) (so_3_5 h1) e5) q_ML_X3_51 (ws_X5 (so_3_5 h0)) rfl dX3_copy_30 (by decide) rfl rfl (Nat.le_of_ble_eq_true rfl) ?_
  refine V_aload_n C 0 dX3_copy_33 rfl rfl ?_
  refine G_X3_outOf (q := v0) C h0 q_FL_X3_26 dX3_copy_34 ?_
  refine V_aload_n C 1 dX3_copy_37 rfl rfl ?_
  refine G_X3_outOf (q := v1) C h1 q_FL_X3_26 dX3_copy_38 ?_
  obtain ⟨S8, e7, h⟩ := bnd_s h
  refine W_callvn C cf_X5_copy (c_X5_copy (so_3_7 h0) (so_3_7 h1) e7) q_ML_X3_51 (ws_X5 (so_3_7 h0)) rfl dX3_copy_41 (by decide) rfl rfl (Nat.le_of_ble_eq_true rfl) ?_
  exact V_vret C X dX3_copy_44 ⟨rfl, rv_2 h⟩
theorem c_X3_copy {ε : eT} {S : St} {v0 : Nat} {v1 : Nat} {res : St} (h0 : sh v0 = 3) (h1 : sh v1 = 3) (h : f_X3_copy S v0 v1 = some res) : CI ε yX3_copy cX3_copy 2 none 3 [.ref (eA ε v0), .ref (eA ε v1)] S none res := CI_of (by decide) (Nat.le_of_ble_eq_true rfl) rfl (fun κ C X => v_X3_copy_e C X h0 h1 h)
def f_X3_join (S : St) (v0 : Nat) (v1 : Int32) (v2 : Int32) (v3 : Int32) : Option (Int32 × St) :=
 bnd (f_X5_add S (v0 + 1) v1) (fun S2 =>
 bnd (f_X5_add S2 (v0 + 3) v2) (fun S4 =>
 bnd (f_X5_add S4 (v0 + 5) (v3 / (10 : Int32))) (fun S6 =>
 bnd (f_X5_add S6 (v0 + 7) (v3 - v3 / (10 : Int32) * (10 : Int32))) (fun S8 =>
 bnd (f_X5_size S8 (v0 + 1)) (fun a10 =>
 some ((a10 - (1 : Int32)), S8))))))
set_option maxRecDepth 20000 in
theorem v_X3_join_e {ε : eT} {κ : kT} (C : Act ε κ cX3_join 4 RX3 2) {S : St} {res : (Int32 × St)} (X : RI ε κ (some .int) (some (.int res.1)) res.2) {v0 : Nat} {v1 : Int32} {v2 : Int32} {v3 : Int32} (h0 : sh v0 = 3) (h : f_X3_join S v0 v1 v2 v3 = some res) : V ε κ 4 0 [(0, .ref (eA ε v0)), (1, .int v1), (2, .int v2), (3, .int v3)] [] (wsOf ε S) 0 0 := by
  unfold f_X3_join at h
  refine V_aload_n C 0 dX3_join_0 rfl rfl ?_
  refine G_X3_kinds (q := v0) C h0 q_FL_X3_14 dX3_join_1 ?_
  refine V_iload_n C 1 dX3_join_4 rfl rfl ?_
  obtain ⟨S2, e1, h⟩ := bnd_s h
  refine W_callvn C cf_X5_add (c_X5_add (so_3_1 h0) e1) q_ML_X3_33 (ws_X5 (so_3_1 h0)) rfl dX3_join_5 (by decide) rfl rfl (Nat.le_of_ble_eq_true rfl) ?_
  refine V_aload_n C 0 dX3_join_8 rfl rfl ?_
  refine G_X3_purses (q := v0) C h0 q_FL_X3_20 dX3_join_9 ?_
  refine V_iload_n C 2 dX3_join_12 rfl rfl ?_
  obtain ⟨S4, e3, h⟩ := bnd_s h
  refine W_callvn C cf_X5_add (c_X5_add (so_3_3 h0) e3) q_ML_X3_33 (ws_X5 (so_3_3 h0)) rfl dX3_join_13 (by decide) rfl rfl (Nat.le_of_ble_eq_true rfl) ?_
  refine V_aload_n C 0 dX3_join_16 rfl rfl ?_
  refine G_X3_chances (q := v0) C h0 q_FL_X3_23 dX3_join_17 ?_
  refine V_iload_n C 3 dX3_join_20 rfl rfl ?_
  refine V_bipush C dX3_join_21 kc_b_10 ?_
  refine V_idiv C dX3_join_23 (by decide) ?_
  obtain ⟨S6, e5, h⟩ := bnd_s h
  refine W_callvn C cf_X5_add (c_X5_add (so_3_5 h0) e5) q_ML_X3_33 (ws_X5 (so_3_5 h0)) rfl dX3_join_24 (by decide) rfl rfl (Nat.le_of_ble_eq_true rfl) ?_
  refine V_aload_n C 0 dX3_join_27 rfl rfl ?_
  refine G_X3_outOf (q := v0) C h0 q_FL_X3_26 dX3_join_28 ?_
  refine V_iload_n C 3 dX3_join_31 rfl rfl ?_
  refine V_bipush C dX3_join_32 kc_b_10 ?_
  refine V_irem C dX3_join_34 (by decide) ?_
  obtain ⟨S8, e7, h⟩ := bnd_s h
  refine W_callvn C cf_X5_add (c_X5_add (so_3_7 h0) e7) q_ML_X3_33 (ws_X5 (so_3_7 h0)) rfl dX3_join_35 (by decide) rfl rfl (Nat.le_of_ble_eq_true rfl) ?_
  refine V_aload_n C 0 dX3_join_38 rfl rfl ?_
  refine G_X3_kinds (q := v0) C h0 q_FL_X3_14 dX3_join_39 ?_
  obtain ⟨a10, e9, h⟩ := bnd_s h
  refine W_callvi C cf_X5_size (c_X5_size (so_3_1 h0) e9) q_ML_X3_29 (ws_X5 (so_3_1 h0)) rfl dX3_join_42 (by decide) rfl rfl (Nat.le_of_ble_eq_true rfl) ?_
  refine V_iconst C dX3_join_45 kc_i_1 ?_
  refine V_isub C dX3_join_46 ?_
  exact V_iret C X dX3_join_47 ⟨ri_1 h, ri_2 h⟩
theorem c_X3_join {ε : eT} {S : St} {v0 : Nat} {v1 : Int32} {v2 : Int32} {v3 : Int32} {res : (Int32 × St)} (h0 : sh v0 = 3) (h : f_X3_join S v0 v1 v2 v3 = some res) : CI ε yX3_join cX3_join 4 (some .int) 2 [.ref (eA ε v0), .int v1, .int v2, .int v3] S (some (.int res.1)) res.2 := CI_of (by decide) (Nat.le_of_ble_eq_true rfl) rfl (fun κ C X => v_X3_join_e C X h0 h)
def f_X4_rankOf (S : St) (v0 : Int32) : Option Int32 :=
 (if v0 = 33 then
 some (6 : Int32)
 else
 (if v0 = 37 then
 some (5 : Int32)
 else
 (if v0 = 38 then
 some (2 : Int32)
 else
 (if v0 = 42 then
 some (5 : Int32)
 else
 (if v0 = 43 then
 some (4 : Int32)
 else
 (if v0 = 45 then
 some (4 : Int32)
 else
 (if v0 = 47 then
 some (5 : Int32)
 else
 (if v0 = 60 then
 some (3 : Int32)
 else
 (if v0 = 61 then
 some (3 : Int32)
 else
 (if v0 = 62 then
 some (3 : Int32)
 else
 (if v0 = 124 then
 some (1 : Int32)
 else
 some (0 : Int32))))))))))))
set_option maxRecDepth 20000 in
theorem v_X4_rankOf_e {ε : eT} {κ : kT} (C : Act ε κ cX4_rankOf 1 RX4 1) {S : St} {res : Int32} (X : RI ε κ (some .int) (some (.int res)) S) {v0 : Int32} (h : f_X4_rankOf S v0 = some res) : V ε κ 1 0 [(0, .int v0)] [] (wsOf ε S) 0 0 := by
  unfold f_X4_rankOf at h
  refine V_iload_n C 0 dX4_rankOf_0 rfl rfl ?_
  by_cases c1 : v0 = 33
  · replace h := ifp c1 h
    refine V_lookup C dX4_rankOf_1 (by decide +kernel) (off := 109) (by rw [c1]; decide +kernel) (tgt := 110) rfl ?_
    refine V_bipush C dX4_rankOf_110 kc_b_6 ?_
    exact V_iret C X dX4_rankOf_112 ⟨rip_1 h, rfl⟩
  · replace h := ifn c1 h
    by_cases c2 : v0 = 37
    · replace h := ifp c2 h
      refine V_lookup C dX4_rankOf_1 (by decide +kernel) (off := 107) (by rw [c2]; decide +kernel) (tgt := 108) rfl ?_
      refine V_iconst C dX4_rankOf_108 kc_i_5 ?_
      exact V_iret C X dX4_rankOf_109 ⟨rip_1 h, rfl⟩
    · replace h := ifn c2 h
      by_cases c3 : v0 = 38
      · replace h := ifp c3 h
        refine V_lookup C dX4_rankOf_1 (by decide +kernel) (off := 101) (by rw [c3]; decide +kernel) (tgt := 102) rfl ?_
        refine V_iconst C dX4_rankOf_102 kc_i_2 ?_
        exact V_iret C X dX4_rankOf_103 ⟨rip_1 h, rfl⟩
      · replace h := ifn c3 h
        by_cases c4 : v0 = 42
        · replace h := ifp c4 h
          refine V_lookup C dX4_rankOf_1 (by decide +kernel) (off := 107) (by rw [c4]; decide +kernel) (tgt := 108) rfl ?_
          refine V_iconst C dX4_rankOf_108 kc_i_5 ?_
          exact V_iret C X dX4_rankOf_109 ⟨rip_1 h, rfl⟩
        · replace h := ifn c4 h
          by_cases c5 : v0 = 43
          · replace h := ifp c5 h
            refine V_lookup C dX4_rankOf_1 (by decide +kernel) (off := 105) (by rw [c5]; decide +kernel) (tgt := 106) rfl ?_
            refine V_iconst C dX4_rankOf_106 kc_i_4 ?_
            exact V_iret C X dX4_rankOf_107 ⟨rip_1 h, rfl⟩
          · replace h := ifn c5 h
            by_cases c6 : v0 = 45
            · replace h := ifp c6 h
              refine V_lookup C dX4_rankOf_1 (by decide +kernel) (off := 105) (by rw [c6]; decide +kernel) (tgt := 106) rfl ?_
              refine V_iconst C dX4_rankOf_106 kc_i_4 ?_
              exact V_iret C X dX4_rankOf_107 ⟨rip_1 h, rfl⟩
            · replace h := ifn c6 h
              by_cases c7 : v0 = 47
              · replace h := ifp c7 h
                refine V_lookup C dX4_rankOf_1 (by decide +kernel) (off := 107) (by rw [c7]; decide +kernel) (tgt := 108) rfl ?_
                refine V_iconst C dX4_rankOf_108 kc_i_5 ?_
                exact V_iret C X dX4_rankOf_109 ⟨rip_1 h, rfl⟩
              · replace h := ifn c7 h
                by_cases c8 : v0 = 60
                · replace h := ifp c8 h
                  refine V_lookup C dX4_rankOf_1 (by decide +kernel) (off := 103) (by rw [c8]; decide +kernel) (tgt := 104) rfl ?_
                  refine V_iconst C dX4_rankOf_104 kc_i_3 ?_
                  exact V_iret C X dX4_rankOf_105 ⟨rip_1 h, rfl⟩
                · replace h := ifn c8 h
                  by_cases c9 : v0 = 61
                  · replace h := ifp c9 h
                    refine V_lookup C dX4_rankOf_1 (by decide +kernel) (off := 103) (by rw [c9]; decide +kernel) (tgt := 104) rfl ?_
                    refine V_iconst C dX4_rankOf_104 kc_i_3 ?_
                    exact V_iret C X dX4_rankOf_105 ⟨rip_1 h, rfl⟩
                  · replace h := ifn c9 h
                    by_cases c10 : v0 = 62
                    · replace h := ifp c10 h
                      refine V_lookup C dX4_rankOf_1 (by decide +kernel) (off := 103) (by rw [c10]; decide +kernel) (tgt := 104) rfl ?_
                      refine V_iconst C dX4_rankOf_104 kc_i_3 ?_
                      exact V_iret C X dX4_rankOf_105 ⟨rip_1 h, rfl⟩
                    · replace h := ifn c10 h
                      by_cases c11 : v0 = 124
                      · replace h := ifp c11 h
                        refine V_lookup C dX4_rankOf_1 (by decide +kernel) (off := 99) (by rw [c11]; decide +kernel) (tgt := 100) rfl ?_
                        refine V_iconst C dX4_rankOf_100 kc_i_1 ?_
                        exact V_iret C X dX4_rankOf_101 ⟨rip_1 h, rfl⟩
                      · replace h := ifn c11 h
                        refine V_lookup C dX4_rankOf_1 (by decide +kernel) (lks_d [(33 : Int32), (37 : Int32), (38 : Int32), (42 : Int32), (43 : Int32), (45 : Int32), (47 : Int32), (60 : Int32), (61 : Int32), (62 : Int32), (124 : Int32)] (List.forall_mem_cons.mpr ⟨c1, (List.forall_mem_cons.mpr ⟨c2, (List.forall_mem_cons.mpr ⟨c3, (List.forall_mem_cons.mpr ⟨c4, (List.forall_mem_cons.mpr ⟨c5, (List.forall_mem_cons.mpr ⟨c6, (List.forall_mem_cons.mpr ⟨c7, (List.forall_mem_cons.mpr ⟨c8, (List.forall_mem_cons.mpr ⟨c9, (List.forall_mem_cons.mpr ⟨c10, (List.forall_mem_cons.mpr ⟨c11, (fun _ h => absurd h List.not_mem_nil)⟩)⟩)⟩)⟩)⟩)⟩)⟩)⟩)⟩)⟩)⟩) (by decide +kernel)) (tgt := 113) rfl ?_
                        refine V_iconst C dX4_rankOf_113 kc_i_0 ?_
                        exact V_iret C X dX4_rankOf_114 ⟨rip_1 h, rfl⟩
theorem c_X4_rankOf {ε : eT} {S : St} {v0 : Int32} {res : Int32} (h : f_X4_rankOf S v0 = some res) : CI ε yX4_rankOf cX4_rankOf 1 (some .int) 1 [.int v0] S (some (.int res)) S := CI_of (by decide) (Nat.le_of_ble_eq_true rfl) rfl (fun κ C X => v_X4_rankOf_e C X h)
def f_X4_close_50 (N : Nat) (K8 : St → Int32 → Int32 → Option St) (S : St) (v1 : Int32) (v2 : Int32) (v3 : Int32) (s0 : Int32) (s1 : Int32) : Option St :=
 bnd (f_X5_add (pt S 149 2 (s1 - s0)) 150 ((20000 : Int32) + v3)) (fun S2 =>
 K8 S2 v1 (v2 + (-1)))
set_option maxRecDepth 20000 in
theorem v_X4_close_50 {ε : eT} {κ : kT} {N : Nat} (C : Act ε κ cX4_close 4 RX4 3) {S : St} {res : St} (X : RI ε κ none none res) {K8 : St → Int32 → Int32 → Option St} (hK8 : ∀ (S : St) (v1 : Int32) (v2 : Int32), K8 S v1 v2 = some res → V ε κ 4 8 [(0, .ref (eA ε 149)), (1, .int v1), (2, .int v2)] [] (wsOf ε S) 0 0) {v1 : Int32} {v2 : Int32} {v3 : Int32} {s0 : Int32} {s1 : Int32} (h : f_X4_close_50 N K8 S v1 v2 v3 s0 s1 = some res) : V ε κ 4 50 [(0, .ref (eA ε 149)), (1, .int v1), (2, .int v2), (3, .int v3)] [.int s0, .int s1, .ref (eA ε 149)] (wsOf ε S) 0 0 := by
  unfold f_X4_close_50 at h
  refine V_isub C dX4_close_50 ?_
  refine P_X4_opened (q := 149) C sk_149 q_FL_X4_26 dX4_close_51 ?_
  refine V_aload_n C 0 dX4_close_54 rfl rfl ?_
  refine G_X4_code (q := 149) C sk_149 q_FL_X4_14 dX4_close_55 ?_
  refine V_sipush C dX4_close_58 kc_s_20000 ?_
  refine V_iload_n C 3 dX4_close_61 rfl rfl ?_
  refine V_iadd C dX4_close_62 ?_
  obtain ⟨S2, e1, h⟩ := bnd_s h
  refine W_callvn C cf_X5_add (c_X5_add sk_150 e1) q_ML_X4_69 (ws_X5 sk_150) rfl dX4_close_63 (by decide) rfl rfl (Nat.le_of_ble_eq_true rfl) ?_
  refine V_iinc (v := (v2 + (-1))) (lv' := [(2, .int (v2 + (-1))), (0, .ref (eA ε 149)), (1, .int v1), (3, .int v3)]) C 2 dX4_close_66 rfl (congrArg _ kc_i_m1) (by decide) rfl ?_
  refine V_goto C dX4_close_69 rfl ?_
  refine V_sub C [1, 2, 0] rfl ?_
  exact hK8 _ _ _ h
def f_X4_close_8 (N : Nat) : Nat → St → Int32 → Int32 → Option St
  | 0, _, _, _ => none
  | n + 1, S, v1, v2 =>
    (if v2 ≤ 0 then
     some S
     else
     bnd (f_X5_last S 152) (fun a3 =>
     bnd (f_X4_rankOf S a3) (fun a5 =>
     (if a5 < v1 then
     some S
     else
     bnd2 (f_X5_pop S 152) (fun a8 S9 =>
     (if a8 = (33 : Int32) then
     f_X4_close_50 N (f_X4_close_8 N n) S9 v1 v2 a8 (1 : Int32) (S9.1 149 2)
     else
     f_X4_close_50 N (f_X4_close_8 N n) S9 v1 v2 a8 (0 : Int32) (S9.1 149 2)))))))
set_option maxRecDepth 20000 in
theorem v_X4_close_8 {ε : eT} {κ : kT} {N : Nat} (C : Act ε κ cX4_close 4 RX4 3) {res : St} (X : RI ε κ none none res) : ∀ (n : Nat) (S : St) (v1 : Int32) (v2 : Int32) (h : f_X4_close_8 N n S v1 v2 = some res), V ε κ 4 8 [(0, .ref (eA ε 149)), (1, .int v1), (2, .int v2)] [] (wsOf ε S) 0 0 := by
  intro n
  induction n with
  | zero => intro S v1 v2 h; cases h
  | succ n ih =>
    intro S v1 v2 h
    rw [f_X4_close_8] at h
    refine V_iload_n C 2 dX4_close_8 rfl rfl ?_
    refine V_if_le C dX4_close_9 rfl (fun c1 => ?_) (fun c1 => ?_)
    · replace h := ifp c1 h
      exact V_vret C X dX4_close_72 ⟨rfl, rv_2 h⟩
    · replace h := ifn c1 h
      refine V_aload_n C 0 dX4_close_12 rfl rfl ?_
      refine G_X4_open (q := 149) C sk_149 q_FL_X4_20 dX4_close_13 ?_
      obtain ⟨a3, e2, h⟩ := bnd_s h
      refine W_callvi C cf_X5_last (c_X5_last sk_152 e2) q_ML_X4_62 (ws_X5 sk_152) rfl dX4_close_16 (by decide) rfl rfl (Nat.le_of_ble_eq_true rfl) ?_
      obtain ⟨a5, e4, h⟩ := bnd_s h
      refine W_callsi C cf_X4_rankOf (c_X4_rankOf e4) q_ML_X4_83 dX4_close_19 (by decide) rfl rfl (Nat.le_of_ble_eq_true rfl) ?_
      refine V_iload_n C 1 dX4_close_22 rfl rfl ?_
      refine V_icmp_lt C dX4_close_23 rfl (fun c6 => ?_) (fun c6 => ?_)
      · replace h := ifp c6 h
        exact V_vret C X dX4_close_72 ⟨rfl, rv_2 h⟩
      · replace h := ifn c6 h
        refine V_aload_n C 0 dX4_close_26 rfl rfl ?_
        refine G_X4_open (q := 149) C sk_149 q_FL_X4_20 dX4_close_27 ?_
        obtain ⟨a8, S9, e7, h⟩ := bnd2_s h
        refine W_callvi C cf_X5_pop (c_X5_pop sk_152 e7) q_ML_X4_86 (ws_X5 sk_152) rfl dX4_close_30 (by decide) rfl rfl (Nat.le_of_ble_eq_true rfl) ?_
        refine V_istore_n (lv' := [(3, .int a8), (0, .ref (eA ε 149)), (1, .int v1), (2, .int v2)]) C dX4_close_33 rfl (by decide) rfl ?_
        refine V_aload_n C 1 dX4_close_34 rfl rfl ?_
        refine V_dup C dX4_close_35 rfl ?_
        refine G_X4_opened (q := 149) C sk_149 q_FL_X4_26 dX4_close_36 ?_
        refine V_iload_n C 0 dX4_close_39 rfl rfl ?_
        refine V_bipush C dX4_close_40 kc_b_33 ?_
        refine V_icmp_ne C dX4_close_42 rfl (fun c10 => ?_) (fun c10 => ?_)
        · replace h := ifn c10 h
          refine V_iconst C dX4_close_49 kc_i_0 ?_
          refine V_sub C [1, 2, 3, 0] rfl ?_
          exact v_X4_close_50 C X ih h
        · replace h := ifp c10 h
          refine V_iconst C dX4_close_45 kc_i_1 ?_
          refine V_goto C dX4_close_46 rfl ?_
          refine V_sub C [1, 2, 3, 0] rfl ?_
          exact v_X4_close_50 C X ih h
def f_X4_close (N : Nat) (S : St) (v1 : Int32) : Option St :=
 bnd (f_X5_size S 152) (fun a2 =>
 f_X4_close_8 N N S v1 a2)
set_option maxRecDepth 20000 in
theorem v_X4_close_e {ε : eT} {κ : kT} {N : Nat} (C : Act ε κ cX4_close 4 RX4 3) {S : St} {res : St} (X : RI ε κ none none res) {v1 : Int32} (h : f_X4_close N S v1 = some res) : V ε κ 4 0 [(0, .ref (eA ε 149)), (1, .int v1)] [] (wsOf ε S) 0 0 := by
  unfold f_X4_close at h
  refine V_aload_n C 0 dX4_close_0 rfl rfl ?_
  refine G_X4_open (q := 149) C sk_149 q_FL_X4_20 dX4_close_1 ?_
  obtain ⟨a2, e1, h⟩ := bnd_s h
  refine W_callvi C cf_X5_size (c_X5_size sk_152 e1) q_ML_X4_37 (ws_X5 sk_152) rfl dX4_close_4 (by decide) rfl rfl (Nat.le_of_ble_eq_true rfl) ?_
  refine V_istore_n (lv' := [(2, .int a2), (0, .ref (eA ε 149)), (1, .int v1)]) C dX4_close_7 rfl (by decide) rfl ?_
  refine V_sub C [1, 2, 0] rfl ?_
  exact v_X4_close_8 C X N _ _ _ h
theorem c_X4_close {ε : eT} {N : Nat} {S : St} {v1 : Int32} {res : St} (h : f_X4_close N S v1 = some res) : CI ε yX4_close cX4_close 4 none 3 [.ref (eA ε 149), .int v1] S none res := CI_of (by decide) (Nat.le_of_ble_eq_true rfl) rfl (fun κ C X => v_X4_close_e C X h)
def f_X4_closesBracket (N : Nat) (S : St) : Option (Int32 × St) :=
 bnd (f_X4_close N S (1 : Int32)) (fun S2 =>
 bnd (f_X5_last S2 152) (fun a4 =>
 (if a4 = (40 : Int32) then
 bnd2 (f_X5_pop S2 152) (fun a7 S8 =>
 some ((1 : Int32), (pt S8 149 2 ((S8.1 149 2) - (1 : Int32)))))
 else
 some ((0 : Int32), S2))))
set_option maxRecDepth 20000 in
theorem v_X4_closesBracket_e {ε : eT} {κ : kT} {N : Nat} (C : Act ε κ cX4_closesBracket 1 RX4 4) {S : St} {res : (Int32 × St)} (X : RI ε κ (some .boolean) (some (.int res.1)) res.2) (h : f_X4_closesBracket N S = some res) : V ε κ 1 0 [(0, .ref (eA ε 149))] [] (wsOf ε S) 0 0 := by
  unfold f_X4_closesBracket at h
  refine V_aload_n C 0 dX4_closesBracket_0 rfl rfl ?_
  refine V_iconst C dX4_closesBracket_1 kc_i_1 ?_
  obtain ⟨S2, e1, h⟩ := bnd_s h
  refine W_callvn C cf_X4_close (c_X4_close e1) q_ML_X4_49 (ws_X4 sk_149) rfl dX4_closesBracket_2 (by decide) rfl rfl (Nat.le_of_ble_eq_true rfl) ?_
  refine V_aload_n C 0 dX4_closesBracket_5 rfl rfl ?_
  refine G_X4_open (q := 149) C sk_149 q_FL_X4_20 dX4_closesBracket_6 ?_
  obtain ⟨a4, e3, h⟩ := bnd_s h
  refine W_callvi C cf_X5_last (c_X5_last sk_152 e3) q_ML_X4_62 (ws_X5 sk_152) rfl dX4_closesBracket_9 (by decide) rfl rfl (Nat.le_of_ble_eq_true rfl) ?_
  refine V_bipush C dX4_closesBracket_12 kc_b_40 ?_
  refine V_icmp_eq C dX4_closesBracket_14 rfl (fun c5 => ?_) (fun c5 => ?_)
  · replace h := ifp c5 h
    refine V_aload_n C 0 dX4_closesBracket_19 rfl rfl ?_
    refine G_X4_open (q := 149) C sk_149 q_FL_X4_20 dX4_closesBracket_20 ?_
    obtain ⟨a7, S8, e6, h⟩ := bnd2_s h
    refine W_callvi C cf_X5_pop (c_X5_pop sk_152 e6) q_ML_X4_86 (ws_X5 sk_152) rfl dX4_closesBracket_23 (by decide) rfl rfl (Nat.le_of_ble_eq_true rfl) ?_
    refine V_pop C dX4_closesBracket_26 rfl ?_
    refine V_aload_n C 0 dX4_closesBracket_27 rfl rfl ?_
    refine V_dup C dX4_closesBracket_28 rfl ?_
    refine G_X4_opened (q := 149) C sk_149 q_FL_X4_26 dX4_closesBracket_29 ?_
    refine V_iconst C dX4_closesBracket_32 kc_i_1 ?_
    refine V_isub C dX4_closesBracket_33 ?_
    refine P_X4_opened (q := 149) C sk_149 q_FL_X4_26 dX4_closesBracket_34 ?_
    refine V_iconst C dX4_closesBracket_37 kc_i_1 ?_
    exact V_zret C nb_1 X dX4_closesBracket_38 ⟨ri_1 h, ri_2 h⟩
  · replace h := ifn c5 h
    refine V_iconst C dX4_closesBracket_17 kc_i_0 ?_
    exact V_zret C nb_0 X dX4_closesBracket_18 ⟨ri_1 h, ri_2 h⟩
theorem c_X4_closesBracket {ε : eT} {N : Nat} {S : St} {res : (Int32 × St)} (h : f_X4_closesBracket N S = some res) : CI ε yX4_closesBracket cX4_closesBracket 1 (some .boolean) 4 [.ref (eA ε 149)] S (some (.int res.1)) res.2 := CI_of (by decide) (Nat.le_of_ble_eq_true rfl) rfl (fun κ C X => v_X4_closesBracket_e C X h)
def f_X4_takesDigit_55 (S : St) (v1 : Int32) : Option (Int32 × St) :=
 (if (S.1 149 4) = 0 then
 some ((0 : Int32), S)
 else
 bnd (f_X5_add S 150 v1) (fun S3 =>
 some ((1 : Int32), (pt (pt S3 149 3 (1 : Int32)) 149 4 (0 : Int32)))))
set_option maxRecDepth 20000 in
theorem v_X4_takesDigit_55 {ε : eT} {κ : kT} (C : Act ε κ cX4_takesDigit 2 RX4 3) {S : St} {res : (Int32 × St)} (X : RI ε κ (some .boolean) (some (.int res.1)) res.2) {v1 : Int32} (h : f_X4_takesDigit_55 S v1 = some res) : V ε κ 2 55 [(0, .ref (eA ε 149)), (1, .int v1)] [] (wsOf ε S) 0 0 := by
  unfold f_X4_takesDigit_55 at h
  refine V_aload_n C 0 dX4_takesDigit_55 rfl rfl ?_
  refine G_X4_operandDue (q := 149) C sk_149 q_FL_X4_33 dX4_takesDigit_56 ?_
  refine V_if_ne C dX4_takesDigit_59 rfl (fun c1 => ?_) (fun c1 => ?_)
  · replace h := ifn c1 h
    refine V_aload_n C 0 dX4_takesDigit_64 rfl rfl ?_
    refine G_X4_code (q := 149) C sk_149 q_FL_X4_14 dX4_takesDigit_65 ?_
    refine V_iload_n C 1 dX4_takesDigit_68 rfl rfl ?_
    obtain ⟨S3, e2, h⟩ := bnd_s h
    refine W_callvn C cf_X5_add (c_X5_add sk_150 e2) q_ML_X4_69 (ws_X5 sk_150) rfl dX4_takesDigit_69 (by decide) rfl rfl (Nat.le_of_ble_eq_true rfl) ?_
    refine V_aload_n C 0 dX4_takesDigit_72 rfl rfl ?_
    refine V_iconst C dX4_takesDigit_73 kc_i_1 ?_
    refine P_X4_digits (q := 149) C sk_149 q_FL_X4_30 dX4_takesDigit_74 ?_
    refine V_aload_n C 0 dX4_takesDigit_77 rfl rfl ?_
    refine V_iconst C dX4_takesDigit_78 kc_i_0 ?_
    refine P_X4_operandDue (q := 149) C nb_0 fb_0 sk_149 q_FL_X4_33 dX4_takesDigit_79 ?_
    refine V_iconst C dX4_takesDigit_82 kc_i_1 ?_
    exact V_zret C nb_1 X dX4_takesDigit_83 ⟨ri_1 h, ri_2 h⟩
  · replace h := ifp c1 h
    refine V_iconst C dX4_takesDigit_62 kc_i_0 ?_
    exact V_zret C nb_0 X dX4_takesDigit_63 ⟨ri_1 h, ri_2 h⟩
def f_X4_takesDigit (S : St) (v1 : Int32) : Option (Int32 × St) :=
 (if (S.1 149 3) ≤ 0 then
 f_X4_takesDigit_55 S v1
 else
 (if (4 : Int32) ≤ (S.1 149 3) then
 f_X4_takesDigit_55 S v1
 else
 bnd (f_X5_size S 150) (fun a4 =>
 bnd (f_X5_last S 150) (fun a6 =>
 bnd (f_X5_set S 150 (a4 - (1 : Int32)) ((a6 * (10 : Int32)) + v1)) (fun S8 =>
 some ((1 : Int32), (pt S8 149 3 ((S8.1 149 3) + (1 : Int32)))))))))
set_option maxRecDepth 20000 in
theorem v_X4_takesDigit_e {ε : eT} {κ : kT} (C : Act ε κ cX4_takesDigit 2 RX4 3) {S : St} {res : (Int32 × St)} (X : RI ε κ (some .boolean) (some (.int res.1)) res.2) {v1 : Int32} (h : f_X4_takesDigit S v1 = some res) : V ε κ 2 0 [(0, .ref (eA ε 149)), (1, .int v1)] [] (wsOf ε S) 0 0 := by
  unfold f_X4_takesDigit at h
  refine V_aload_n C 0 dX4_takesDigit_0 rfl rfl ?_
  refine G_X4_digits (q := 149) C sk_149 q_FL_X4_30 dX4_takesDigit_1 ?_
  refine V_if_le C dX4_takesDigit_4 rfl (fun c1 => ?_) (fun c1 => ?_)
  · replace h := ifp c1 h
    exact v_X4_takesDigit_55 C X h
  · replace h := ifn c1 h
    refine V_aload_n C 0 dX4_takesDigit_7 rfl rfl ?_
    refine G_X4_digits (q := 149) C sk_149 q_FL_X4_30 dX4_takesDigit_8 ?_
    refine V_iconst C dX4_takesDigit_11 kc_i_4 ?_
    refine V_icmp_ge C dX4_takesDigit_12 rfl (fun c2 => ?_) (fun c2 => ?_)
    · replace h := ifp c2 h
      exact v_X4_takesDigit_55 C X h
    · replace h := ifn c2 h
      refine V_aload_n C 0 dX4_takesDigit_15 rfl rfl ?_
      refine G_X4_code (q := 149) C sk_149 q_FL_X4_14 dX4_takesDigit_16 ?_
      refine V_aload_n C 0 dX4_takesDigit_19 rfl rfl ?_
      refine G_X4_code (q := 149) C sk_149 q_FL_X4_14 dX4_takesDigit_20 ?_
      obtain ⟨a4, e3, h⟩ := bnd_s h
      refine W_callvi C cf_X5_size (c_X5_size sk_150 e3) q_ML_X4_37 (ws_X5 sk_150) rfl dX4_takesDigit_23 (by decide) rfl rfl (Nat.le_of_ble_eq_true rfl) ?_
      refine V_iconst C dX4_takesDigit_26 kc_i_1 ?_
      refine V_isub C dX4_takesDigit_27 ?_
      refine V_aload_n C 0 dX4_takesDigit_28 rfl rfl ?_
      refine G_X4_code (q := 149) C sk_149 q_FL_X4_14 dX4_takesDigit_29 ?_
      obtain ⟨a6, e5, h⟩ := bnd_s h
      refine W_callvi C cf_X5_last (c_X5_last sk_150 e5) q_ML_X4_62 (ws_X5 sk_150) rfl dX4_takesDigit_32 (by decide) rfl rfl (Nat.le_of_ble_eq_true rfl) ?_
      refine V_bipush C dX4_takesDigit_35 kc_b_10 ?_
      refine V_imul C dX4_takesDigit_37 ?_
      refine V_iload_n C 1 dX4_takesDigit_38 rfl rfl ?_
      refine V_iadd C dX4_takesDigit_39 ?_
      obtain ⟨S8, e7, h⟩ := bnd_s h
      refine W_callvn C cf_X5_set (c_X5_set sk_150 e7) q_ML_X4_65 (ws_X5 sk_150) rfl dX4_takesDigit_40 (by decide) rfl rfl (Nat.le_of_ble_eq_true rfl) ?_
      refine V_aload_n C 0 dX4_takesDigit_43 rfl rfl ?_
      refine V_dup C dX4_takesDigit_44 rfl ?_
      refine G_X4_digits (q := 149) C sk_149 q_FL_X4_30 dX4_takesDigit_45 ?_
      refine V_iconst C dX4_takesDigit_48 kc_i_1 ?_
      refine V_iadd C dX4_takesDigit_49 ?_
      refine P_X4_digits (q := 149) C sk_149 q_FL_X4_30 dX4_takesDigit_50 ?_
      refine V_iconst C dX4_takesDigit_53 kc_i_1 ?_
      exact V_zret C nb_1 X dX4_takesDigit_54 ⟨ri_1 h, ri_2 h⟩
theorem c_X4_takesDigit {ε : eT} {S : St} {v1 : Int32} {res : (Int32 × St)} (h : f_X4_takesDigit S v1 = some res) : CI ε yX4_takesDigit cX4_takesDigit 2 (some .boolean) 3 [.ref (eA ε 149), .int v1] S (some (.int res.1)) res.2 := CI_of (by decide) (Nat.le_of_ble_eq_true rfl) rfl (fun κ C X => v_X4_takesDigit_e C X h)
def f_X4_takesFirst_12 (S : St) (v1 : Int32) : Option (Int32 × St) :=
 bnd (f_X5_add S 152 v1) (fun S2 =>
 (if (5 : Int32) < ((pt S2 149 2 ((S2.1 149 2) + (1 : Int32))).1 149 2) then
 some ((0 : Int32), (pt S2 149 2 ((S2.1 149 2) + (1 : Int32))))
 else
 some ((1 : Int32), (pt S2 149 2 ((S2.1 149 2) + (1 : Int32))))))
set_option maxRecDepth 20000 in
theorem v_X4_takesFirst_12 {ε : eT} {κ : kT} (C : Act ε κ cX4_takesFirst 4 RX4 41) {S : St} {res : (Int32 × St)} (X : RI ε κ (some .boolean) (some (.int res.1)) res.2) {v1 : Int32} (h : f_X4_takesFirst_12 S v1 = some res) : V ε κ 4 12 [(0, .ref (eA ε 149)), (1, .int v1)] [] (wsOf ε S) 0 0 := by
  unfold f_X4_takesFirst_12 at h
  refine V_aload_n C 0 dX4_takesFirst_12 rfl rfl ?_
  refine G_X4_open (q := 149) C sk_149 q_FL_X4_20 dX4_takesFirst_13 ?_
  refine V_iload_n C 1 dX4_takesFirst_16 rfl rfl ?_
  obtain ⟨S2, e1, h⟩ := bnd_s h
  refine W_callvn C cf_X5_add (c_X5_add sk_152 e1) q_ML_X4_69 (ws_X5 sk_152) rfl dX4_takesFirst_17 (by decide) rfl rfl (Nat.le_of_ble_eq_true rfl) ?_
  refine V_aload_n C 0 dX4_takesFirst_20 rfl rfl ?_
  refine V_dup C dX4_takesFirst_21 rfl ?_
  refine G_X4_opened (q := 149) C sk_149 q_FL_X4_26 dX4_takesFirst_22 ?_
  refine V_iconst C dX4_takesFirst_25 kc_i_1 ?_
  refine V_iadd C dX4_takesFirst_26 ?_
  refine P_X4_opened (q := 149) C sk_149 q_FL_X4_26 dX4_takesFirst_27 ?_
  refine V_aload_n C 0 dX4_takesFirst_30 rfl rfl ?_
  refine G_X4_opened (q := 149) C sk_149 q_FL_X4_26 dX4_takesFirst_31 ?_
  refine V_iconst C dX4_takesFirst_34 kc_i_5 ?_
  refine V_icmp_gt C dX4_takesFirst_35 rfl (fun c3 => ?_) (fun c3 => ?_)
  · replace h := ifp c3 h
    refine V_iconst C dX4_takesFirst_42 kc_i_0 ?_
    exact V_zret C nb_0 X dX4_takesFirst_43 ⟨ri_1 h, ri_2 h⟩
  · replace h := ifn c3 h
    refine V_iconst C dX4_takesFirst_38 kc_i_1 ?_
    refine V_goto C dX4_takesFirst_39 rfl ?_
    exact V_zret C nb_1 X dX4_takesFirst_43 ⟨ri_1 h, ri_2 h⟩
def f_X4_takesFirst (S : St) (v1 : Int32) (v2 : Nat) : Option (Int32 × St) :=
 (if v1 = (33 : Int32) then
 f_X4_takesFirst_12 S v1
 else
 (if v1 = (40 : Int32) then
 f_X4_takesFirst_12 S v1
 else
 (if v2 = 2 ∨ v2 = 3 then
 bnd (f_X5_add S 150 ((10000 : Int32) + (idxS v2 (((v1).toUInt32 % 65536).toInt32)))) (fun S5 =>
 (if (idxS v2 (((v1).toUInt32 % 65536).toInt32)) < 0 then
 some ((0 : Int32), (pt S5 149 4 (0 : Int32)))
 else
 some ((1 : Int32), (pt S5 149 4 (0 : Int32)))))
 else none)))
set_option maxRecDepth 20000 in
theorem v_X4_takesFirst_e {ε : eT} {κ : kT} (C : Act ε κ cX4_takesFirst 4 RX4 41) {S : St} {res : (Int32 × St)} (X : RI ε κ (some .boolean) (some (.int res.1)) res.2) {v1 : Int32} {v2 : Nat} (h : f_X4_takesFirst S v1 v2 = some res) : V ε κ 4 0 [(0, .ref (eA ε 149)), (1, .int v1), (2, .ref (eZ ε v2))] [] (wsOf ε S) 0 0 := by
  unfold f_X4_takesFirst at h
  refine V_iload_n C 1 dX4_takesFirst_0 rfl rfl ?_
  refine V_bipush C dX4_takesFirst_1 kc_b_33 ?_
  refine V_icmp_eq C dX4_takesFirst_3 rfl (fun c1 => ?_) (fun c1 => ?_)
  · replace h := ifp c1 h
    refine V_sub C [0, 1] rfl ?_
    exact v_X4_takesFirst_12 C X h
  · replace h := ifn c1 h
    refine V_iload_n C 1 dX4_takesFirst_6 rfl rfl ?_
    refine V_bipush C dX4_takesFirst_7 kc_b_40 ?_
    refine V_icmp_ne C dX4_takesFirst_9 rfl (fun c2 => ?_) (fun c2 => ?_)
    · replace h := ifn c2 h
      refine V_aload_n C 2 dX4_takesFirst_44 rfl rfl ?_
      refine V_iload_n C 1 dX4_takesFirst_45 rfl rfl ?_
      refine V_i2c C dX4_takesFirst_46 ?_
      obtain ⟨g3, h⟩ := gdt h
      refine W_indexOf C g3 q_ML_X4_72 (by decide) (Nat.le_of_ble_eq_true rfl) dX4_takesFirst_47 ?_
      refine V_istore_n (lv' := [(3, .int (idxS v2 (((v1).toUInt32 % 65536).toInt32))), (0, .ref (eA ε 149)), (1, .int v1), (2, .ref (eZ ε v2))]) C dX4_takesFirst_50 rfl (by decide) rfl ?_
      refine V_aload_n C 1 dX4_takesFirst_51 rfl rfl ?_
      refine G_X4_code (q := 149) C sk_149 q_FL_X4_14 dX4_takesFirst_52 ?_
      refine V_sipush C dX4_takesFirst_55 kc_s_10000 ?_
      refine V_iload_n C 0 dX4_takesFirst_58 rfl rfl ?_
      refine V_iadd C dX4_takesFirst_59 ?_
      obtain ⟨S5, e4, h⟩ := bnd_s h
      refine W_callvn C cf_X5_add (c_X5_add sk_150 e4) q_ML_X4_69 (ws_X5 sk_150) rfl dX4_takesFirst_60 (by decide) rfl rfl (Nat.le_of_ble_eq_true rfl) ?_
      refine V_aload_n C 1 dX4_takesFirst_63 rfl rfl ?_
      refine V_iconst C dX4_takesFirst_64 kc_i_0 ?_
      refine P_X4_operandDue (q := 149) C nb_0 fb_0 sk_149 q_FL_X4_33 dX4_takesFirst_65 ?_
      refine V_iload_n C 0 dX4_takesFirst_68 rfl rfl ?_
      refine V_if_lt C dX4_takesFirst_69 rfl (fun c6 => ?_) (fun c6 => ?_)
      · replace h := ifp c6 h
        refine V_iconst C dX4_takesFirst_76 kc_i_0 ?_
        exact V_zret C nb_0 X dX4_takesFirst_77 ⟨ri_1 h, ri_2 h⟩
      · replace h := ifn c6 h
        refine V_iconst C dX4_takesFirst_72 kc_i_1 ?_
        refine V_goto C dX4_takesFirst_73 rfl ?_
        exact V_zret C nb_1 X dX4_takesFirst_77 ⟨ri_1 h, ri_2 h⟩
    · replace h := ifp c2 h
      refine V_sub C [0, 1] rfl ?_
      exact v_X4_takesFirst_12 C X h
theorem c_X4_takesFirst {ε : eT} {S : St} {v1 : Int32} {v2 : Nat} {res : (Int32 × St)} (h : f_X4_takesFirst S v1 v2 = some res) : CI ε yX4_takesFirst cX4_takesFirst 4 (some .boolean) 41 [.ref (eA ε 149), .int v1, .ref (eZ ε v2)] S (some (.int res.1)) res.2 := CI_of (by decide) (Nat.le_of_ble_eq_true rfl) rfl (fun κ C X => v_X4_takesFirst_e C X h)
def f_X4_takesNext_65 (N : Nat) (S : St) (v1 : Int32) : Option (Int32 × St) :=
 bnd (f_X5_add S 152 v1) (fun S2 =>
 some ((1 : Int32), (pt S2 149 4 (1 : Int32))))
set_option maxRecDepth 20000 in
theorem v_X4_takesNext_65 {ε : eT} {κ : kT} {N : Nat} (C : Act ε κ cX4_takesNext 3 RX4 5) {S : St} {res : (Int32 × St)} (X : RI ε κ (some .boolean) (some (.int res.1)) res.2) {v1 : Int32} (h : f_X4_takesNext_65 N S v1 = some res) : V ε κ 3 65 [(0, .ref (eA ε 149)), (1, .int v1)] [] (wsOf ε S) 0 0 := by
  unfold f_X4_takesNext_65 at h
  refine V_aload_n C 0 dX4_takesNext_65 rfl rfl ?_
  refine G_X4_open (q := 149) C sk_149 q_FL_X4_20 dX4_takesNext_66 ?_
  refine V_iload_n C 1 dX4_takesNext_69 rfl rfl ?_
  obtain ⟨S2, e1, h⟩ := bnd_s h
  refine W_callvn C cf_X5_add (c_X5_add sk_152 e1) q_ML_X4_69 (ws_X5 sk_152) rfl dX4_takesNext_70 (by decide) rfl rfl (Nat.le_of_ble_eq_true rfl) ?_
  refine V_aload_n C 0 dX4_takesNext_73 rfl rfl ?_
  refine V_iconst C dX4_takesNext_74 kc_i_1 ?_
  refine P_X4_operandDue (q := 149) C nb_1 fb_1 sk_149 q_FL_X4_33 dX4_takesNext_75 ?_
  refine V_iconst C dX4_takesNext_78 kc_i_1 ?_
  exact V_zret C nb_1 X dX4_takesNext_79 ⟨ri_1 h, ri_2 h⟩
def f_X4_takesNext_41 (N : Nat) (S : St) (v1 : Int32) (v2 : Int32) (s0 : Int32) : Option (Int32 × St) :=
 bnd (f_X4_close N S s0) (fun S2 =>
 (if v2 = (3 : Int32) then
 bnd (f_X5_last S2 152) (fun a5 =>
 bnd (f_X4_rankOf S2 a5) (fun a7 =>
 (if a7 = (3 : Int32) then
 some ((0 : Int32), S2)
 else
 f_X4_takesNext_65 N S2 v1)))
 else
 f_X4_takesNext_65 N S2 v1))
set_option maxRecDepth 20000 in
theorem v_X4_takesNext_41 {ε : eT} {κ : kT} {N : Nat} (C : Act ε κ cX4_takesNext 3 RX4 5) {S : St} {res : (Int32 × St)} (X : RI ε κ (some .boolean) (some (.int res.1)) res.2) {v1 : Int32} {v2 : Int32} {s0 : Int32} (h : f_X4_takesNext_41 N S v1 v2 s0 = some res) : V ε κ 3 41 [(0, .ref (eA ε 149)), (1, .int v1), (2, .int v2)] [.int s0, .ref (eA ε 149)] (wsOf ε S) 0 0 := by
  unfold f_X4_takesNext_41 at h
  obtain ⟨S2, e1, h⟩ := bnd_s h
  refine W_callvn C cf_X4_close (c_X4_close e1) q_ML_X4_49 (ws_X4 sk_149) rfl dX4_takesNext_41 (by decide) rfl rfl (Nat.le_of_ble_eq_true rfl) ?_
  refine V_iload_n C 2 dX4_takesNext_44 rfl rfl ?_
  refine V_iconst C dX4_takesNext_45 kc_i_3 ?_
  refine V_icmp_ne C dX4_takesNext_46 rfl (fun c3 => ?_) (fun c3 => ?_)
  · replace h := ifn c3 h
    refine V_sub C [0, 1] rfl ?_
    exact v_X4_takesNext_65 C X h
  · replace h := ifp c3 h
    refine V_aload_n C 0 dX4_takesNext_49 rfl rfl ?_
    refine G_X4_open (q := 149) C sk_149 q_FL_X4_20 dX4_takesNext_50 ?_
    obtain ⟨a5, e4, h⟩ := bnd_s h
    refine W_callvi C cf_X5_last (c_X5_last sk_152 e4) q_ML_X4_62 (ws_X5 sk_152) rfl dX4_takesNext_53 (by decide) rfl rfl (Nat.le_of_ble_eq_true rfl) ?_
    obtain ⟨a7, e6, h⟩ := bnd_s h
    refine W_callsi C cf_X4_rankOf (c_X4_rankOf e6) q_ML_X4_83 dX4_takesNext_56 (by decide) rfl rfl (Nat.le_of_ble_eq_true rfl) ?_
    refine V_iconst C dX4_takesNext_59 kc_i_3 ?_
    refine V_icmp_ne C dX4_takesNext_60 rfl (fun c8 => ?_) (fun c8 => ?_)
    · replace h := ifn c8 h
      refine V_sub C [0, 1] rfl ?_
      exact v_X4_takesNext_65 C X h
    · replace h := ifp c8 h
      refine V_iconst C dX4_takesNext_63 kc_i_0 ?_
      exact V_zret C nb_0 X dX4_takesNext_64 ⟨ri_1 h, ri_2 h⟩
def f_X4_takesNext (N : Nat) (S : St) (v1 : Int32) : Option (Int32 × St) :=
 (if v1 = (41 : Int32) then
 bnd2 (f_X4_closesBracket N S) (fun a8 S9 =>
 (if bo a8 = true then some (a8, S9) else none))
 else
 bnd (f_X4_rankOf S v1) (fun a3 =>
 (if a3 = 0 then
 some ((0 : Int32), S)
 else
 (if a3 = (6 : Int32) then
 some ((0 : Int32), S)
 else
 (if a3 = (3 : Int32) then
 f_X4_takesNext_41 N S v1 a3 (a3 + (1 : Int32))
 else
 f_X4_takesNext_41 N S v1 a3 a3)))))
set_option maxRecDepth 20000 in
theorem v_X4_takesNext_e {ε : eT} {κ : kT} {N : Nat} (C : Act ε κ cX4_takesNext 3 RX4 5) {S : St} {res : (Int32 × St)} (X : RI ε κ (some .boolean) (some (.int res.1)) res.2) {v1 : Int32} (h : f_X4_takesNext N S v1 = some res) : V ε κ 3 0 [(0, .ref (eA ε 149)), (1, .int v1)] [] (wsOf ε S) 0 0 := by
  unfold f_X4_takesNext at h
  refine V_iload_n C 1 dX4_takesNext_0 rfl rfl ?_
  refine V_bipush C dX4_takesNext_1 kc_b_41 ?_
  refine V_icmp_ne C dX4_takesNext_3 rfl (fun c1 => ?_) (fun c1 => ?_)
  · replace h := ifn c1 h
    refine V_iload_n C 1 dX4_takesNext_11 rfl rfl ?_
    obtain ⟨a3, e2, h⟩ := bnd_s h
    refine W_callsi C cf_X4_rankOf (c_X4_rankOf e2) q_ML_X4_83 dX4_takesNext_12 (by decide) rfl rfl (Nat.le_of_ble_eq_true rfl) ?_
    refine V_istore_n (lv' := [(2, .int a3), (0, .ref (eA ε 149)), (1, .int v1)]) C dX4_takesNext_15 rfl (by decide) rfl ?_
    refine V_iload_n C 0 dX4_takesNext_16 rfl rfl ?_
    refine V_if_eq C dX4_takesNext_17 rfl (fun c4 => ?_) (fun c4 => ?_)
    · replace h := ifp c4 h
      refine V_iconst C dX4_takesNext_26 kc_i_0 ?_
      exact V_zret C nb_0 X dX4_takesNext_27 ⟨ri_1 h, ri_2 h⟩
    · replace h := ifn c4 h
      refine V_iload_n C 0 dX4_takesNext_20 rfl rfl ?_
      refine V_bipush C dX4_takesNext_21 kc_b_6 ?_
      refine V_icmp_ne C dX4_takesNext_23 rfl (fun c5 => ?_) (fun c5 => ?_)
      · replace h := ifn c5 h
        refine V_aload_n C 1 dX4_takesNext_28 rfl rfl ?_
        refine V_iload_n C 0 dX4_takesNext_29 rfl rfl ?_
        refine V_iconst C dX4_takesNext_30 kc_i_3 ?_
        refine V_icmp_ne C dX4_takesNext_31 rfl (fun c6 => ?_) (fun c6 => ?_)
        · replace h := ifn c6 h
          refine V_iload_n C 0 dX4_takesNext_40 rfl rfl ?_
          refine V_sub C [1, 2, 0] rfl ?_
          exact v_X4_takesNext_41 C X h
        · replace h := ifp c6 h
          refine V_iload_n C 0 dX4_takesNext_34 rfl rfl ?_
          refine V_iconst C dX4_takesNext_35 kc_i_1 ?_
          refine V_iadd C dX4_takesNext_36 ?_
          refine V_goto C dX4_takesNext_37 rfl ?_
          refine V_sub C [1, 2, 0] rfl ?_
          exact v_X4_takesNext_41 C X h
      · replace h := ifp c5 h
        refine V_iconst C dX4_takesNext_26 kc_i_0 ?_
        exact V_zret C nb_0 X dX4_takesNext_27 ⟨ri_1 h, ri_2 h⟩
  · replace h := ifp c1 h
    refine V_aload_n C 0 dX4_takesNext_6 rfl rfl ?_
    obtain ⟨a8, S9, e7, h⟩ := bnd2_s h
    refine W_callvi C cf_X4_closesBracket (c_X4_closesBracket e7) q_ML_X4_79 (ws_X4 sk_149) rfl dX4_takesNext_7 (by decide) rfl rfl (Nat.le_of_ble_eq_true rfl) ?_
    obtain ⟨g10, h⟩ := gdt h
    exact V_zret C (nb_v g10) X dX4_takesNext_10 ⟨ri_1 h, ri_2 h⟩
theorem c_X4_takesNext {ε : eT} {N : Nat} {S : St} {v1 : Int32} {res : (Int32 × St)} (h : f_X4_takesNext N S v1 = some res) : CI ε yX4_takesNext cX4_takesNext 3 (some .boolean) 5 [.ref (eA ε 149), .int v1] S (some (.int res.1)) res.2 := CI_of (by decide) (Nat.le_of_ble_eq_true rfl) rfl (fun κ C X => v_X4_takesNext_e C X h)
def f_X4_takes_21 (N : Nat) (S : St) (v1 : Int32) (v2 : Nat) : Option (Int32 × St) :=
 (if ((pt S 149 3 (0 : Int32)).1 149 4) = 0 then
 bnd2 (f_X4_takesNext N (pt S 149 3 (0 : Int32)) v1) (fun a3 S4 =>
 (if bo a3 = true then some (a3, S4) else none))
 else
 bnd2 (f_X4_takesFirst (pt S 149 3 (0 : Int32)) v1 v2) (fun a7 S8 =>
 (if bo a7 = true then some (a7, S8) else none)))
set_option maxRecDepth 20000 in
theorem v_X4_takes_21 {ε : eT} {κ : kT} {N : Nat} (C : Act ε κ cX4_takes 3 RX4 42) {S : St} {res : (Int32 × St)} (X : RI ε κ (some .boolean) (some (.int res.1)) res.2) {v1 : Int32} {v2 : Nat} (h : f_X4_takes_21 N S v1 v2 = some res) : V ε κ 3 21 [(0, .ref (eA ε 149)), (1, .int v1), (2, .ref (eZ ε v2))] [] (wsOf ε S) 0 0 := by
  unfold f_X4_takes_21 at h
  refine V_aload_n C 0 dX4_takes_21 rfl rfl ?_
  refine V_iconst C dX4_takes_22 kc_i_0 ?_
  refine P_X4_digits (q := 149) C sk_149 q_FL_X4_30 dX4_takes_23 ?_
  refine V_aload_n C 0 dX4_takes_26 rfl rfl ?_
  refine G_X4_operandDue (q := 149) C sk_149 q_FL_X4_33 dX4_takes_27 ?_
  refine V_if_eq C dX4_takes_30 rfl (fun c1 => ?_) (fun c1 => ?_)
  · replace h := ifp c1 h
    refine V_aload_n C 0 dX4_takes_42 rfl rfl ?_
    refine V_iload_n C 1 dX4_takes_43 rfl rfl ?_
    obtain ⟨a3, S4, e2, h⟩ := bnd2_s h
    refine W_callvi C cf_X4_takesNext (c_X4_takesNext e2) q_ML_X4_59 (ws_X4 sk_149) rfl dX4_takes_44 (by decide) rfl rfl (Nat.le_of_ble_eq_true rfl) ?_
    obtain ⟨g5, h⟩ := gdt h
    exact V_zret C (nb_v g5) X dX4_takes_47 ⟨ri_1 h, ri_2 h⟩
  · replace h := ifn c1 h
    refine V_aload_n C 0 dX4_takes_33 rfl rfl ?_
    refine V_iload_n C 1 dX4_takes_34 rfl rfl ?_
    refine V_aload_n C 2 dX4_takes_35 rfl rfl ?_
    obtain ⟨a7, S8, e6, h⟩ := bnd2_s h
    refine W_callvi C cf_X4_takesFirst (c_X4_takesFirst e6) q_ML_X4_56 (ws_X4 sk_149) rfl dX4_takes_36 (by decide) rfl rfl (Nat.le_of_ble_eq_true rfl) ?_
    refine V_goto C dX4_takes_39 rfl ?_
    obtain ⟨g9, h⟩ := gdt h
    exact V_zret C (nb_v g9) X dX4_takes_47 ⟨ri_1 h, ri_2 h⟩
def f_X4_takes (N : Nat) (S : St) (v1 : Int32) (v2 : Nat) : Option (Int32 × St) :=
 (if v1 < (48 : Int32) then
 f_X4_takes_21 N S v1 v2
 else
 (if (57 : Int32) < v1 then
 f_X4_takes_21 N S v1 v2
 else
 bnd2 (f_X4_takesDigit S (v1 - (48 : Int32))) (fun a4 S5 =>
 (if bo a4 = true then some (a4, S5) else none))))
set_option maxRecDepth 20000 in
theorem v_X4_takes_e {ε : eT} {κ : kT} {N : Nat} (C : Act ε κ cX4_takes 3 RX4 42) {S : St} {res : (Int32 × St)} (X : RI ε κ (some .boolean) (some (.int res.1)) res.2) {v1 : Int32} {v2 : Nat} (h : f_X4_takes N S v1 v2 = some res) : V ε κ 3 0 [(0, .ref (eA ε 149)), (1, .int v1), (2, .ref (eZ ε v2))] [] (wsOf ε S) 0 0 := by
  unfold f_X4_takes at h
  refine V_iload_n C 1 dX4_takes_0 rfl rfl ?_
  refine V_bipush C dX4_takes_1 kc_b_48 ?_
  refine V_icmp_lt C dX4_takes_3 rfl (fun c1 => ?_) (fun c1 => ?_)
  · replace h := ifp c1 h
    exact v_X4_takes_21 C X h
  · replace h := ifn c1 h
    refine V_iload_n C 1 dX4_takes_6 rfl rfl ?_
    refine V_bipush C dX4_takes_7 kc_b_57 ?_
    refine V_icmp_gt C dX4_takes_9 rfl (fun c2 => ?_) (fun c2 => ?_)
    · replace h := ifp c2 h
      exact v_X4_takes_21 C X h
    · replace h := ifn c2 h
      refine V_aload_n C 0 dX4_takes_12 rfl rfl ?_
      refine V_iload_n C 1 dX4_takes_13 rfl rfl ?_
      refine V_bipush C dX4_takes_14 kc_b_48 ?_
      refine V_isub C dX4_takes_16 ?_
      obtain ⟨a4, S5, e3, h⟩ := bnd2_s h
      refine W_callvi C cf_X4_takesDigit (c_X4_takesDigit e3) q_ML_X4_52 (ws_X4 sk_149) rfl dX4_takes_17 (by decide) rfl rfl (Nat.le_of_ble_eq_true rfl) ?_
      obtain ⟨g6, h⟩ := gdt h
      exact V_zret C (nb_v g6) X dX4_takes_20 ⟨ri_1 h, ri_2 h⟩
theorem c_X4_takes {ε : eT} {N : Nat} {S : St} {v1 : Int32} {v2 : Nat} {res : (Int32 × St)} (h : f_X4_takes N S v1 v2 = some res) : CI ε yX4_takes cX4_takes 3 (some .boolean) 42 [.ref (eA ε 149), .int v1, .ref (eZ ε v2)] S (some (.int res.1)) res.2 := CI_of (by decide) (Nat.le_of_ble_eq_true rfl) rfl (fun κ C X => v_X4_takes_e C X h)
def f_X4_read_84 (N : Nat) (S : St) (v1 : Nat) : Option (Int32 × St) :=
 bnd (f_X5_size S v1) (fun a2 =>
 some (a2, S))
set_option maxRecDepth 20000 in
theorem v_X4_read_84 {ε : eT} {κ : kT} {N : Nat} (C : Act ε κ cX4_read 4 RX4 43) {S : St} {res : (Int32 × St)} (X : RI ε κ (some .int) (some (.int res.1)) res.2) {v1 : Nat} (h1 : sh v1 = 5) (h : f_X4_read_84 N S v1 = some res) : V ε κ 4 84 [(1, .ref (eA ε v1))] [] (wsOf ε S) 0 0 := by
  unfold f_X4_read_84 at h
  refine V_aload_n C 0 dX4_read_84 rfl rfl ?_
  obtain ⟨a2, e1, h⟩ := bnd_s h
  refine W_callvi C cf_X5_size (c_X5_size h1 e1) q_ML_X4_37 (ws_X5 h1) rfl dX4_read_85 (by decide) rfl rfl (Nat.le_of_ble_eq_true rfl) ?_
  refine V_goto C dX4_read_88 rfl ?_
  exact V_iret C X dX4_read_92 ⟨ri_1 h, ri_2 h⟩
def f_X4_read_33 (N : Nat) : Nat → St → Nat → Nat → Int32 → Option (Int32 × St)
  | 0, _, _, _, _ => none
  | n + 1, S, v1, v2, v3 =>
    bnd (f_X5_size S v1) (fun a2 =>
     (if a2 ≤ v3 then
     bnd (f_X4_close N S (1 : Int32)) (fun S5 =>
     (if (S5.1 149 4) = 0 then
     bnd (f_X5_size S5 152) (fun a8 =>
     (if a8 ≤ 0 then
     some ((-1 : Int32), S5)
     else
     f_X4_read_84 N S5 v1))
     else
     f_X4_read_84 N S5 v1))
     else
     bnd (f_X5_at S v1 v3) (fun a11 =>
     bnd2 (f_X4_takes N S a11 v2) (fun a13 S14 =>
     (if a13 = 0 then
     some (v3, S14)
     else
     f_X4_read_33 N n S14 v1 v2 (v3 + 1))))))
set_option maxRecDepth 20000 in
theorem v_X4_read_33 {ε : eT} {κ : kT} {N : Nat} (C : Act ε κ cX4_read 4 RX4 43) {res : (Int32 × St)} (X : RI ε κ (some .int) (some (.int res.1)) res.2) : ∀ (n : Nat) (S : St) (v1 : Nat) (v2 : Nat) (v3 : Int32) (h1 : sh v1 = 5) (h : f_X4_read_33 N n S v1 v2 v3 = some res), V ε κ 4 33 [(0, .ref (eA ε 149)), (1, .ref (eA ε v1)), (2, .ref (eZ ε v2)), (3, .int v3)] [] (wsOf ε S) 0 0 := by
  intro n
  induction n with
  | zero => intro S v1 v2 v3 h1 h; cases h
  | succ n ih =>
    intro S v1 v2 v3 h1 h
    rw [f_X4_read_33] at h
    refine V_iload_n C 3 dX4_read_33 rfl rfl ?_
    refine V_aload_n C 1 dX4_read_34 rfl rfl ?_
    obtain ⟨a2, e1, h⟩ := bnd_s h
    refine W_callvi C cf_X5_size (c_X5_size h1 e1) q_ML_X4_37 (ws_X5 h1) rfl dX4_read_35 (by decide) rfl rfl (Nat.le_of_ble_eq_true rfl) ?_
    refine V_icmp_ge C dX4_read_38 rfl (fun c3 => ?_) (fun c3 => ?_)
    · replace h := ifp c3 h
      refine V_aload_n C 0 dX4_read_62 rfl rfl ?_
      refine V_iconst C dX4_read_63 kc_i_1 ?_
      obtain ⟨S5, e4, h⟩ := bnd_s h
      refine W_callvn C cf_X4_close (c_X4_close e4) q_ML_X4_49 (ws_X4 sk_149) rfl dX4_read_64 (by decide) rfl rfl (Nat.le_of_ble_eq_true rfl) ?_
      refine V_aload_n C 0 dX4_read_67 rfl rfl ?_
      refine G_X4_operandDue (q := 149) C sk_149 q_FL_X4_33 dX4_read_68 ?_
      refine V_if_ne C dX4_read_71 rfl (fun c6 => ?_) (fun c6 => ?_)
      · replace h := ifn c6 h
        refine V_sub C [1] rfl ?_
        exact v_X4_read_84 C X h1 h
      · replace h := ifp c6 h
        refine V_aload_n C 0 dX4_read_74 rfl rfl ?_
        refine G_X4_open (q := 149) C sk_149 q_FL_X4_20 dX4_read_75 ?_
        obtain ⟨a8, e7, h⟩ := bnd_s h
        refine W_callvi C cf_X5_size (c_X5_size sk_152 e7) q_ML_X4_37 (ws_X5 sk_152) rfl dX4_read_78 (by decide) rfl rfl (Nat.le_of_ble_eq_true rfl) ?_
        refine V_if_le C dX4_read_81 rfl (fun c9 => ?_) (fun c9 => ?_)
        · replace h := ifp c9 h
          refine V_iconst C dX4_read_91 kc_i_m1 ?_
          exact V_iret C X dX4_read_92 ⟨ri_1 h, ri_2 h⟩
        · replace h := ifn c9 h
          refine V_sub C [1] rfl ?_
          exact v_X4_read_84 C X h1 h
    · replace h := ifn c3 h
      refine V_aload_n C 0 dX4_read_41 rfl rfl ?_
      refine V_aload_n C 1 dX4_read_42 rfl rfl ?_
      refine V_iload_n C 3 dX4_read_43 rfl rfl ?_
      obtain ⟨a11, e10, h⟩ := bnd_s h
      refine W_callvi C cf_X5_at (c_X5_at h1 e10) q_ML_X4_41 (ws_X5 h1) rfl dX4_read_44 (by decide) rfl rfl (Nat.le_of_ble_eq_true rfl) ?_
      refine V_aload_n C 2 dX4_read_47 rfl rfl ?_
      obtain ⟨a13, S14, e12, h⟩ := bnd2_s h
      refine W_callvi C cf_X4_takes (c_X4_takes e12) q_ML_X4_45 (ws_X4 sk_149) rfl dX4_read_48 (by decide) rfl rfl (Nat.le_of_ble_eq_true rfl) ?_
      refine V_if_ne C dX4_read_51 rfl (fun c15 => ?_) (fun c15 => ?_)
      · replace h := ifn c15 h
        refine V_iinc (v := (v3 + 1)) (lv' := [(3, .int (v3 + 1)), (0, .ref (eA ε 149)), (1, .ref (eA ε v1)), (2, .ref (eZ ε v2))]) C 3 dX4_read_56 rfl (congrArg _ kc_i_1) (by decide) rfl ?_
        refine V_goto C dX4_read_59 rfl ?_
        refine V_sub C [1, 2, 3, 0] rfl ?_
        exact ih _ _ _ _ h1 h
      · replace h := ifp c15 h
        refine V_iload_n C 3 dX4_read_54 rfl rfl ?_
        exact V_iret C X dX4_read_55 ⟨ri_1 h, ri_2 h⟩
def f_X4_read (N : Nat) (S : St) (v1 : Nat) (v2 : Nat) : Option (Int32 × St) :=
 bnd (f_X5_reset N S 150 (0 : Int32)) (fun S2 =>
 bnd (f_X5_reset N S2 152 (0 : Int32)) (fun S4 =>
 f_X4_read_33 N N (pt (pt (pt S4 149 2 (0 : Int32)) 149 3 (0 : Int32)) 149 4 (1 : Int32)) v1 v2 (0 : Int32)))
set_option maxRecDepth 20000 in
theorem v_X4_read_e {ε : eT} {κ : kT} {N : Nat} (C : Act ε κ cX4_read 4 RX4 43) {S : St} {res : (Int32 × St)} (X : RI ε κ (some .int) (some (.int res.1)) res.2) {v1 : Nat} {v2 : Nat} (h1 : sh v1 = 5) (h : f_X4_read N S v1 v2 = some res) : V ε κ 4 0 [(0, .ref (eA ε 149)), (1, .ref (eA ε v1)), (2, .ref (eZ ε v2))] [] (wsOf ε S) 0 0 := by
  unfold f_X4_read at h
  refine V_aload_n C 0 dX4_read_0 rfl rfl ?_
  refine G_X4_code (q := 149) C sk_149 q_FL_X4_14 dX4_read_1 ?_
  refine V_iconst C dX4_read_4 kc_i_0 ?_
  obtain ⟨S2, e1, h⟩ := bnd_s h
  refine W_callvn C cf_X5_reset (c_X5_reset sk_150 e1) q_ML_X4_23 (ws_X5 sk_150) rfl dX4_read_5 (by decide) rfl rfl (Nat.le_of_ble_eq_true rfl) ?_
  refine V_aload_n C 0 dX4_read_8 rfl rfl ?_
  refine G_X4_open (q := 149) C sk_149 q_FL_X4_20 dX4_read_9 ?_
  refine V_iconst C dX4_read_12 kc_i_0 ?_
  obtain ⟨S4, e3, h⟩ := bnd_s h
  refine W_callvn C cf_X5_reset (c_X5_reset sk_152 e3) q_ML_X4_23 (ws_X5 sk_152) rfl dX4_read_13 (by decide) rfl rfl (Nat.le_of_ble_eq_true rfl) ?_
  refine V_aload_n C 0 dX4_read_16 rfl rfl ?_
  refine V_iconst C dX4_read_17 kc_i_0 ?_
  refine P_X4_opened (q := 149) C sk_149 q_FL_X4_26 dX4_read_18 ?_
  refine V_aload_n C 0 dX4_read_21 rfl rfl ?_
  refine V_iconst C dX4_read_22 kc_i_0 ?_
  refine P_X4_digits (q := 149) C sk_149 q_FL_X4_30 dX4_read_23 ?_
  refine V_aload_n C 0 dX4_read_26 rfl rfl ?_
  refine V_iconst C dX4_read_27 kc_i_1 ?_
  refine P_X4_operandDue (q := 149) C nb_1 fb_1 sk_149 q_FL_X4_33 dX4_read_28 ?_
  refine V_iconst C dX4_read_31 kc_i_0 ?_
  refine V_istore_n (lv' := [(3, .int (0 : Int32)), (0, .ref (eA ε 149)), (1, .ref (eA ε v1)), (2, .ref (eZ ε v2))]) C dX4_read_32 rfl (by decide) rfl ?_
  refine V_sub C [1, 2, 3, 0] rfl ?_
  exact v_X4_read_33 C X N _ _ _ _ h1 h
theorem c_X4_read {ε : eT} {N : Nat} {S : St} {v1 : Nat} {v2 : Nat} {res : (Int32 × St)} (h1 : sh v1 = 5) (h : f_X4_read N S v1 v2 = some res) : CI ε yX4_read cX4_read 4 (some .int) 43 [.ref (eA ε 149), .ref (eA ε v1), .ref (eZ ε v2)] S (some (.int res.1)) res.2 := CI_of (by decide) (Nat.le_of_ble_eq_true rfl) rfl (fun κ C X => v_X4_read_e C X h1 h)
def f_X5_sum_4 (N : Nat) (S : St) : Nat → Nat → Int32 → Int32 → Option Int32
  | 0, _, _, _ => none
  | n + 1, v0, v1, v2 =>
    (if (S.1 v0 1) ≤ v2 then
     some v1
     else
     bnd (f_X5_at S v0 v2) (fun a3 =>
     f_X5_sum_4 N S n v0 (v1 + a3) (v2 + 1)))
set_option maxRecDepth 20000 in
theorem v_X5_sum_4 {ε : eT} {κ : kT} {N : Nat} (C : Act ε κ cX5_sum 3 RX5 2) {S : St} {res : Int32} (X : RI ε κ (some .int) (some (.int res)) S) : ∀ (n : Nat) (v0 : Nat) (v1 : Int32) (v2 : Int32) (h0 : sh v0 = 5) (h : f_X5_sum_4 N S n v0 v1 v2 = some res), V ε κ 3 4 [(0, .ref (eA ε v0)), (1, .int v1), (2, .int v2)] [] (wsOf ε S) 0 0 := by
  intro n
  induction n with
  | zero => intro v0 v1 v2 h0 h; cases h
  | succ n ih =>
    intro v0 v1 v2 h0 h
    rw [f_X5_sum_4] at h
    refine V_iload_n C 2 dX5_sum_4 rfl rfl ?_
    refine V_aload_n C 0 dX5_sum_5 rfl rfl ?_
    refine G_X5_size (q := v0) C h0 q_FL_X5_19 dX5_sum_6 ?_
    refine V_icmp_ge C dX5_sum_9 rfl (fun c1 => ?_) (fun c1 => ?_)
    · replace h := ifp c1 h
      refine V_iload_n C 1 dX5_sum_26 rfl rfl ?_
      exact V_iret C X dX5_sum_27 ⟨rip_1 h, rfl⟩
    · replace h := ifn c1 h
      refine V_iload_n C 1 dX5_sum_12 rfl rfl ?_
      refine V_aload_n C 0 dX5_sum_13 rfl rfl ?_
      refine V_iload_n C 2 dX5_sum_14 rfl rfl ?_
      obtain ⟨a3, e2, h⟩ := bnd_s h
      refine W_callvi C cf_X5_at (c_X5_at h0 e2) q_ML_X5_23 (ws_X5 h0) rfl dX5_sum_15 (by decide) rfl rfl (Nat.le_of_ble_eq_true rfl) ?_
      refine V_iadd C dX5_sum_18 ?_
      refine V_istore_n (lv' := [(1, .int (v1 + a3)), (0, .ref (eA ε v0)), (2, .int v2)]) C dX5_sum_19 rfl (by decide) rfl ?_
      refine V_iinc (v := (v2 + 1)) (lv' := [(2, .int (v2 + 1)), (1, .int (v1 + a3)), (0, .ref (eA ε v0))]) C 2 dX5_sum_20 rfl (congrArg _ kc_i_1) (by decide) rfl ?_
      refine V_goto C dX5_sum_23 rfl ?_
      refine V_sub C [2, 1, 0] rfl ?_
      exact ih _ _ _ h0 h
def f_X5_sum (N : Nat) (S : St) (v0 : Nat) : Option Int32 :=
 f_X5_sum_4 N S N v0 (0 : Int32) (0 : Int32)
set_option maxRecDepth 20000 in
theorem v_X5_sum_e {ε : eT} {κ : kT} {N : Nat} (C : Act ε κ cX5_sum 3 RX5 2) {S : St} {res : Int32} (X : RI ε κ (some .int) (some (.int res)) S) {v0 : Nat} (h0 : sh v0 = 5) (h : f_X5_sum N S v0 = some res) : V ε κ 3 0 [(0, .ref (eA ε v0))] [] (wsOf ε S) 0 0 := by
  unfold f_X5_sum at h
  refine V_iconst C dX5_sum_0 kc_i_0 ?_
  refine V_istore_n (lv' := [(1, .int (0 : Int32)), (0, .ref (eA ε v0))]) C dX5_sum_1 rfl (by decide) rfl ?_
  refine V_iconst C dX5_sum_2 kc_i_0 ?_
  refine V_istore_n (lv' := [(2, .int (0 : Int32)), (1, .int (0 : Int32)), (0, .ref (eA ε v0))]) C dX5_sum_3 rfl (by decide) rfl ?_
  refine V_sub C [2, 1, 0] rfl ?_
  exact v_X5_sum_4 C X N _ _ _ h0 h
theorem c_X5_sum {ε : eT} {N : Nat} {S : St} {v0 : Nat} {res : Int32} (h0 : sh v0 = 5) (h : f_X5_sum N S v0 = some res) : CI ε yX5_sum cX5_sum 3 (some .int) 2 [.ref (eA ε v0)] S (some (.int res)) S := CI_of (by decide) (Nat.le_of_ble_eq_true rfl) rfl (fun κ C X => v_X5_sum_e C X h0 h)
def f_X5_swap (S : St) (v0 : Nat) (v1 : Int32) (v2 : Int32) : Option (Int32 × St) :=
 bnd (f_X5_at S v0 v1) (fun a2 =>
 bnd (f_X5_set S v0 v1 v2) (fun S4 =>
 some (a2, S4)))
set_option maxRecDepth 20000 in
theorem v_X5_swap_e {ε : eT} {κ : kT} (C : Act ε κ cX5_swap 4 RX5 2) {S : St} {res : (Int32 × St)} (X : RI ε κ (some .int) (some (.int res.1)) res.2) {v0 : Nat} {v1 : Int32} {v2 : Int32} (h0 : sh v0 = 5) (h : f_X5_swap S v0 v1 v2 = some res) : V ε κ 4 0 [(0, .ref (eA ε v0)), (1, .int v1), (2, .int v2)] [] (wsOf ε S) 0 0 := by
  unfold f_X5_swap at h
  refine V_aload_n C 0 dX5_swap_0 rfl rfl ?_
  refine V_iload_n C 1 dX5_swap_1 rfl rfl ?_
  obtain ⟨a2, e1, h⟩ := bnd_s h
  refine W_callvi C cf_X5_at (c_X5_at h0 e1) q_ML_X5_23 (ws_X5 h0) rfl dX5_swap_2 (by decide) rfl rfl (Nat.le_of_ble_eq_true rfl) ?_
  refine V_istore_n (lv' := [(3, .int a2), (0, .ref (eA ε v0)), (1, .int v1), (2, .int v2)]) C dX5_swap_5 rfl (by decide) rfl ?_
  refine V_aload_n C 1 dX5_swap_6 rfl rfl ?_
  refine V_iload_n C 2 dX5_swap_7 rfl rfl ?_
  refine V_iload_n C 3 dX5_swap_8 rfl rfl ?_
  obtain ⟨S4, e3, h⟩ := bnd_s h
  refine W_callvn C cf_X5_set (c_X5_set h0 e3) q_ML_X5_27 (ws_X5 h0) rfl dX5_swap_9 (by decide) rfl rfl (Nat.le_of_ble_eq_true rfl) ?_
  refine V_iload_n C 0 dX5_swap_12 rfl rfl ?_
  exact V_iret C X dX5_swap_13 ⟨ri_1 h, ri_2 h⟩
theorem c_X5_swap {ε : eT} {S : St} {v0 : Nat} {v1 : Int32} {v2 : Int32} {res : (Int32 × St)} (h0 : sh v0 = 5) (h : f_X5_swap S v0 v1 v2 = some res) : CI ε yX5_swap cX5_swap 4 (some .int) 2 [.ref (eA ε v0), .int v1, .int v2] S (some (.int res.1)) res.2 := CI_of (by decide) (Nat.le_of_ble_eq_true rfl) rfl (fun κ C X => v_X5_swap_e C X h0 h)
