def f_X12_worked_158 (N : Nat) (K14 : St → Int32 → Int32 → Int32 → Option (Int32 × St)) (S : St) (v2 : Int32) (v3 : Int32) (v4 : Int32) : Option (Int32 × St) :=
 K14 S v2 v3 (v4 + 1)
set_option maxRecDepth 20000 in
theorem v_X12_worked_158 {ε : eT} {κ : kT} {N : Nat} (C : Act ε κ cX12_worked 7 RX12 2) {S : St} {res : (Int32 × St)} (X : RI ε κ (some .int) (some (.int res.1)) res.2) {K14 : St → Int32 → Int32 → Int32 → Option (Int32 × St)} (hK14 : ∀ (S : St) (v2 : Int32) (v3 : Int32) (v4 : Int32), K14 S v2 v3 v4 = some res → V ε κ 7 14 [(0, .ref (eA ε 172)), (2, .int v2), (3, .int v3), (4, .int v4)] [] (wsOf ε S) 0 0) {v2 : Int32} {v3 : Int32} {v4 : Int32} (h : f_X12_worked_158 N K14 S v2 v3 v4 = some res) : V ε κ 7 158 [(0, .ref (eA ε 172)), (2, .int v2), (3, .int v3), (4, .int v4)] [] (wsOf ε S) 0 0 := by
  unfold f_X12_worked_158 at h
  refine V_iinc (v := (v4 + 1)) (lv' := [(4, .int (v4 + 1)), (0, .ref (eA ε 172)), (2, .int v2), (3, .int v3)]) C 3 dX12_worked_158 rfl (congrArg _ kc_i_1) (by decide) rfl ?_
  refine V_goto C dX12_worked_161 rfl ?_
  refine V_sub C [1, 2, 3, 0] rfl ?_
  exact hK14 _ _ _ _ h
def f_X12_worked_88 (N : Nat) (K14 : St → Int32 → Int32 → Int32 → Option (Int32 × St)) (S : St) (v2 : Int32) (v3 : Int32) (v4 : Int32) (s0 : Int32) (s1 : Int32) : Option (Int32 × St) :=
 (if inb s1 64 = true then
 f_X12_worked_158 N K14 (pt S 179 s1.toNatClampNeg s0) v2 (v3 + 1) v4
 else none)
set_option maxRecDepth 20000 in
theorem v_X12_worked_88 {ε : eT} {κ : kT} {N : Nat} (C : Act ε κ cX12_worked 7 RX12 2) {S : St} {res : (Int32 × St)} (X : RI ε κ (some .int) (some (.int res.1)) res.2) {K14 : St → Int32 → Int32 → Int32 → Option (Int32 × St)} (hK14 : ∀ (S : St) (v2 : Int32) (v3 : Int32) (v4 : Int32), K14 S v2 v3 v4 = some res → V ε κ 7 14 [(0, .ref (eA ε 172)), (2, .int v2), (3, .int v3), (4, .int v4)] [] (wsOf ε S) 0 0) {v2 : Int32} {v3 : Int32} {v4 : Int32} {s0 : Int32} {s1 : Int32} (h : f_X12_worked_88 N K14 S v2 v3 v4 s0 s1 = some res) : V ε κ 7 88 [(0, .ref (eA ε 172)), (2, .int v2), (3, .int v3), (4, .int v4)] [.int s0, .int s1, .ref (eA ε 179)] (wsOf ε S) 0 0 := by
  unfold f_X12_worked_88 at h
  obtain ⟨g1, h⟩ := gdt h
  refine W_iast (q := 179) C sk_179 g1 dX12_worked_88 ?_
  refine V_iinc (v := (v3 + 1)) (lv' := [(3, .int (v3 + 1)), (0, .ref (eA ε 172)), (2, .int v2), (4, .int v4)]) C 2 dX12_worked_89 rfl (congrArg _ kc_i_1) (by decide) rfl ?_
  refine V_goto C dX12_worked_92 rfl ?_
  refine V_sub C [1, 2, 0, 3] rfl ?_
  exact v_X12_worked_158 C X hK14 h
def f_X12_worked_66 (N : Nat) (K14 : St → Int32 → Int32 → Int32 → Option (Int32 × St)) (S : St) (v2 : Int32) (v3 : Int32) (v4 : Int32) (v5 : Int32) (v6 : Int32) : Option (Int32 × St) :=
 (if v5 = 0 then
 f_X12_worked_88 N K14 S v2 v3 v4 v6 v3
 else
 (if inb v6 128 = true then
 f_X12_worked_88 N K14 S v2 v3 v4 (S.1 178 v6.toNatClampNeg) v3
 else none))
set_option maxRecDepth 20000 in
theorem v_X12_worked_66 {ε : eT} {κ : kT} {N : Nat} (C : Act ε κ cX12_worked 7 RX12 2) {S : St} {res : (Int32 × St)} (X : RI ε κ (some .int) (some (.int res.1)) res.2) {K14 : St → Int32 → Int32 → Int32 → Option (Int32 × St)} (hK14 : ∀ (S : St) (v2 : Int32) (v3 : Int32) (v4 : Int32), K14 S v2 v3 v4 = some res → V ε κ 7 14 [(0, .ref (eA ε 172)), (2, .int v2), (3, .int v3), (4, .int v4)] [] (wsOf ε S) 0 0) {v2 : Int32} {v3 : Int32} {v4 : Int32} {v5 : Int32} {v6 : Int32} (h : f_X12_worked_66 N K14 S v2 v3 v4 v5 v6 = some res) : V ε κ 7 66 [(0, .ref (eA ε 172)), (2, .int v2), (3, .int v3), (4, .int v4), (5, .int v5), (6, .int v6)] [] (wsOf ε S) 0 0 := by
  unfold f_X12_worked_66 at h
  refine V_aload_n C 0 dX12_worked_66 rfl rfl ?_
  refine G_X12_pile (q := 172) C sk_172 q_FL_X12_28 dX12_worked_67 ?_
  refine V_iload_n C 2 dX12_worked_70 rfl rfl ?_
  refine V_iload C 4 dX12_worked_71 rfl ?_
  refine V_if_ne C dX12_worked_73 rfl (fun c1 => ?_) (fun c1 => ?_)
  · replace h := ifn c1 h
    refine V_aload_n C 0 dX12_worked_81 rfl rfl ?_
    refine G_X12_named (q := 172) C sk_172 q_FL_X12_25 dX12_worked_82 ?_
    refine V_iload C 5 dX12_worked_85 rfl ?_
    obtain ⟨g2, h⟩ := gdt h
    refine W_iald (q := 178) C sk_178 g2 dX12_worked_87 ?_
    refine V_sub C [0, 1, 2, 3] rfl ?_
    exact v_X12_worked_88 C X hK14 h
  · replace h := ifp c1 h
    refine V_iload C 5 dX12_worked_76 rfl ?_
    refine V_goto C dX12_worked_78 rfl ?_
    refine V_sub C [0, 1, 2, 3] rfl ?_
    exact v_X12_worked_88 C X hK14 h
def f_X12_worked_124 (N : Nat) (K14 : St → Int32 → Int32 → Int32 → Option (Int32 × St)) (S : St) (v2 : Int32) (v3 : Int32) (v4 : Int32) (s0 : Int32) (s1 : Int32) : Option (Int32 × St) :=
 (if inb s1 64 = true then
 f_X12_worked_158 N K14 (pt S 179 s1.toNatClampNeg s0) v2 v3 v4
 else none)
set_option maxRecDepth 20000 in
theorem v_X12_worked_124 {ε : eT} {κ : kT} {N : Nat} (C : Act ε κ cX12_worked 7 RX12 2) {S : St} {res : (Int32 × St)} (X : RI ε κ (some .int) (some (.int res.1)) res.2) {K14 : St → Int32 → Int32 → Int32 → Option (Int32 × St)} (hK14 : ∀ (S : St) (v2 : Int32) (v3 : Int32) (v4 : Int32), K14 S v2 v3 v4 = some res → V ε κ 7 14 [(0, .ref (eA ε 172)), (2, .int v2), (3, .int v3), (4, .int v4)] [] (wsOf ε S) 0 0) {v2 : Int32} {v3 : Int32} {v4 : Int32} {s0 : Int32} {s1 : Int32} (h : f_X12_worked_124 N K14 S v2 v3 v4 s0 s1 = some res) : V ε κ 7 124 [(0, .ref (eA ε 172)), (2, .int v2), (3, .int v3), (4, .int v4)] [.int s0, .int s1, .ref (eA ε 179)] (wsOf ε S) 0 0 := by
  unfold f_X12_worked_124 at h
  obtain ⟨g1, h⟩ := gdt h
  refine W_iast (q := 179) C sk_179 g1 dX12_worked_124 ?_
  refine V_goto C dX12_worked_125 rfl ?_
  exact v_X12_worked_158 C X hK14 h
def f_X12_worked_14 (N : Nat) : Nat → St → Int32 → Int32 → Int32 → Option (Int32 × St)
  | 0, _, _, _, _ => none
  | n + 1, S, v2, v3, v4 =>
    (if inb v2 516 = true then
     (if (S.1 173 v2.toNatClampNeg) ≤ v4 then
     some ((S.1 179 0), S)
     else
     (if inb ((v2 + (1 : Int32)) + ((2 : Int32) * v4)) 516 = true then
     (if inb ((v2 + (2 : Int32)) + ((2 : Int32) * v4)) 516 = true then
     (if (S.1 173 ((v2 + (1 : Int32)) + ((2 : Int32) * v4)).toNatClampNeg) = 0 then
     f_X12_worked_66 N (f_X12_worked_14 N n) S v2 v3 v4 (S.1 173 ((v2 + (1 : Int32)) + ((2 : Int32) * v4)).toNatClampNeg) (S.1 173 ((v2 + (2 : Int32)) + ((2 : Int32) * v4)).toNatClampNeg)
     else
     (if (S.1 173 ((v2 + (1 : Int32)) + ((2 : Int32) * v4)).toNatClampNeg) = (1 : Int32) then
     f_X12_worked_66 N (f_X12_worked_14 N n) S v2 v3 v4 (S.1 173 ((v2 + (1 : Int32)) + ((2 : Int32) * v4)).toNatClampNeg) (S.1 173 ((v2 + (2 : Int32)) + ((2 : Int32) * v4)).toNatClampNeg)
     else
     (if (S.1 173 ((v2 + (1 : Int32)) + ((2 : Int32) * v4)).toNatClampNeg) = (2 : Int32) then
     (if inb (v3 - (1 : Int32)) 64 = true then
     (if (S.1 179 (v3 - (1 : Int32)).toNatClampNeg) = 0 then
     f_X12_worked_124 N (f_X12_worked_14 N n) S v2 v3 v4 (1 : Int32) (v3 - (1 : Int32))
     else
     f_X12_worked_124 N (f_X12_worked_14 N n) S v2 v3 v4 (0 : Int32) (v3 - (1 : Int32)))
     else none)
     else
     (if inb ((v3 + (-1)) - (1 : Int32)) 64 = true then
     (if inb (v3 + (-1)) 64 = true then
     bnd (f_X12_joined S (S.1 173 ((v2 + (2 : Int32)) + ((2 : Int32) * v4)).toNatClampNeg) (S.1 179 ((v3 + (-1)) - (1 : Int32)).toNatClampNeg) (S.1 179 (v3 + (-1)).toNatClampNeg)) (fun a11 =>
     (if inb ((v3 + (-1)) - (1 : Int32)) 64 = true then
     f_X12_worked_158 N (f_X12_worked_14 N n) (pt S 179 ((v3 + (-1)) - (1 : Int32)).toNatClampNeg a11) v2 (v3 + (-1)) v4
     else none))
     else none)
     else none))))
     else none)
     else none))
     else none)
set_option maxRecDepth 20000 in
theorem v_X12_worked_14 {ε : eT} {κ : kT} {N : Nat} (C : Act ε κ cX12_worked 7 RX12 2) {res : (Int32 × St)} (X : RI ε κ (some .int) (some (.int res.1)) res.2) : ∀ (n : Nat) (S : St) (v2 : Int32) (v3 : Int32) (v4 : Int32) (h : f_X12_worked_14 N n S v2 v3 v4 = some res), V ε κ 7 14 [(0, .ref (eA ε 172)), (2, .int v2), (3, .int v3), (4, .int v4)] [] (wsOf ε S) 0 0 := by
  intro n
  induction n with
  | zero => intro S v2 v3 v4 h; cases h
  | succ n ih =>
    intro S v2 v3 v4 h
    rw [f_X12_worked_14] at h
    refine V_iload C 3 dX12_worked_14 rfl ?_
    refine V_aload_n C 0 dX12_worked_16 rfl rfl ?_
    refine G_X12_s (q := 172) C sk_172 q_FL_X12_7 dX12_worked_17 ?_
    refine V_iload_n C 1 dX12_worked_20 rfl rfl ?_
    obtain ⟨g1, h⟩ := gdt h
    refine W_iald (q := 173) C sk_173 g1 dX12_worked_21 ?_
    refine V_icmp_ge C dX12_worked_22 rfl (fun c2 => ?_) (fun c2 => ?_)
    · replace h := ifp c2 h
      refine V_aload_n C 0 dX12_worked_164 rfl rfl ?_
      refine G_X12_pile (q := 172) C sk_172 q_FL_X12_28 dX12_worked_165 ?_
      refine V_iconst C dX12_worked_168 kc_i_0 ?_
      refine W_ialdc (q := 179) C sk_179 (j := 0) tn_0 (by decide) dX12_worked_169 ?_
      exact V_iret C X dX12_worked_170 ⟨ri_1 h, ri_2 h⟩
    · replace h := ifn c2 h
      refine V_aload_n C 0 dX12_worked_25 rfl rfl ?_
      refine G_X12_s (q := 172) C sk_172 q_FL_X12_7 dX12_worked_26 ?_
      refine V_iload_n C 1 dX12_worked_29 rfl rfl ?_
      refine V_iconst C dX12_worked_30 kc_i_1 ?_
      refine V_iadd C dX12_worked_31 ?_
      refine V_iconst C dX12_worked_32 kc_i_2 ?_
      refine V_iload C 3 dX12_worked_33 rfl ?_
      refine V_imul C dX12_worked_35 ?_
      refine V_iadd C dX12_worked_36 ?_
      obtain ⟨g3, h⟩ := gdt h
      refine W_iald (q := 173) C sk_173 g3 dX12_worked_37 ?_
      refine V_istore (lv' := [(5, .int (S.1 173 ((v2 + (1 : Int32)) + ((2 : Int32) * v4)).toNatClampNeg)), (0, .ref (eA ε 172)), (2, .int v2), (3, .int v3), (4, .int v4)]) C dX12_worked_38 (by decide) rfl ?_
      refine V_aload_n C 1 dX12_worked_40 rfl rfl ?_
      refine G_X12_s (q := 172) C sk_172 q_FL_X12_7 dX12_worked_41 ?_
      refine V_iload_n C 2 dX12_worked_44 rfl rfl ?_
      refine V_iconst C dX12_worked_45 kc_i_2 ?_
      refine V_iadd C dX12_worked_46 ?_
      refine V_iconst C dX12_worked_47 kc_i_2 ?_
      refine V_iload C 4 dX12_worked_48 rfl ?_
      refine V_imul C dX12_worked_50 ?_
      refine V_iadd C dX12_worked_51 ?_
      obtain ⟨g4, h⟩ := gdt h
      refine W_iald (q := 173) C sk_173 g4 dX12_worked_52 ?_
      refine V_istore (lv' := [(6, .int (S.1 173 ((v2 + (2 : Int32)) + ((2 : Int32) * v4)).toNatClampNeg)), (5, .int (S.1 173 ((v2 + (1 : Int32)) + ((2 : Int32) * v4)).toNatClampNeg)), (0, .ref (eA ε 172)), (2, .int v2), (3, .int v3), (4, .int v4)]) C dX12_worked_53 (by decide) rfl ?_
      refine V_iload C 1 dX12_worked_55 rfl ?_
      refine V_if_eq C dX12_worked_57 rfl (fun c5 => ?_) (fun c5 => ?_)
      · replace h := ifp c5 h
        refine V_sub C [2, 3, 4, 5, 1, 0] rfl ?_
        exact v_X12_worked_66 C X ih h
      · replace h := ifn c5 h
        refine V_iload C 1 dX12_worked_60 rfl ?_
        refine V_iconst C dX12_worked_62 kc_i_1 ?_
        refine V_icmp_ne C dX12_worked_63 rfl (fun c6 => ?_) (fun c6 => ?_)
        · replace h := ifn c6 h
          refine V_iload C 1 dX12_worked_95 rfl ?_
          refine V_iconst C dX12_worked_97 kc_i_2 ?_
          refine V_icmp_ne C dX12_worked_98 rfl (fun c7 => ?_) (fun c7 => ?_)
          · replace h := ifn c7 h
            refine V_iinc (v := (v3 + (-1))) (lv' := [(3, .int (v3 + (-1))), (6, .int (S.1 173 ((v2 + (2 : Int32)) + ((2 : Int32) * v4)).toNatClampNeg)), (5, .int (S.1 173 ((v2 + (1 : Int32)) + ((2 : Int32) * v4)).toNatClampNeg)), (0, .ref (eA ε 172)), (2, .int v2), (4, .int v4)]) C 4 dX12_worked_128 rfl (congrArg _ kc_i_m1) (by decide) rfl ?_
            refine V_aload_n C 3 dX12_worked_131 rfl rfl ?_
            refine G_X12_pile (q := 172) C sk_172 q_FL_X12_28 dX12_worked_132 ?_
            refine V_iload_n C 0 dX12_worked_135 rfl rfl ?_
            refine V_iconst C dX12_worked_136 kc_i_1 ?_
            refine V_isub C dX12_worked_137 ?_
            refine V_iload C 1 dX12_worked_138 rfl ?_
            refine V_aload_n C 3 dX12_worked_140 rfl rfl ?_
            refine G_X12_pile (q := 172) C sk_172 q_FL_X12_28 dX12_worked_141 ?_
            refine V_iload_n C 0 dX12_worked_144 rfl rfl ?_
            refine V_iconst C dX12_worked_145 kc_i_1 ?_
            refine V_isub C dX12_worked_146 ?_
            obtain ⟨g8, h⟩ := gdt h
            refine W_iald (q := 179) C sk_179 g8 dX12_worked_147 ?_
            refine V_aload_n C 3 dX12_worked_148 rfl rfl ?_
            refine G_X12_pile (q := 172) C sk_172 q_FL_X12_28 dX12_worked_149 ?_
            refine V_iload_n C 0 dX12_worked_152 rfl rfl ?_
            obtain ⟨g9, h⟩ := gdt h
            refine W_iald (q := 179) C sk_179 g9 dX12_worked_153 ?_
            obtain ⟨a11, e10, h⟩ := bnd_s h
            refine W_callsi C cf_X12_joined (c_X12_joined e10) q_ML_X12_155 dX12_worked_154 (by decide) rfl rfl (Nat.le_of_ble_eq_true rfl) ?_
            obtain ⟨g12, h⟩ := gdt h
            refine W_iast (q := 179) C sk_179 g12 dX12_worked_157 ?_
            refine V_sub C [3, 4, 0, 5] rfl ?_
            exact v_X12_worked_158 C X ih h
          · replace h := ifp c7 h
            refine V_aload_n C 2 dX12_worked_101 rfl rfl ?_
            refine G_X12_pile (q := 172) C sk_172 q_FL_X12_28 dX12_worked_102 ?_
            refine V_iload_n C 4 dX12_worked_105 rfl rfl ?_
            refine V_iconst C dX12_worked_106 kc_i_1 ?_
            refine V_isub C dX12_worked_107 ?_
            refine V_aload_n C 2 dX12_worked_108 rfl rfl ?_
            refine G_X12_pile (q := 172) C sk_172 q_FL_X12_28 dX12_worked_109 ?_
            refine V_iload_n C 4 dX12_worked_112 rfl rfl ?_
            refine V_iconst C dX12_worked_113 kc_i_1 ?_
            refine V_isub C dX12_worked_114 ?_
            obtain ⟨g13, h⟩ := gdt h
            refine W_iald (q := 179) C sk_179 g13 dX12_worked_115 ?_
            refine V_if_ne C dX12_worked_116 rfl (fun c14 => ?_) (fun c14 => ?_)
            · replace h := ifn c14 h
              refine V_iconst C dX12_worked_123 kc_i_0 ?_
              refine V_sub C [2, 3, 4, 5] rfl ?_
              exact v_X12_worked_124 C X ih h
            · replace h := ifp c14 h
              refine V_iconst C dX12_worked_119 kc_i_1 ?_
              refine V_goto C dX12_worked_120 rfl ?_
              refine V_sub C [2, 3, 4, 5] rfl ?_
              exact v_X12_worked_124 C X ih h
        · replace h := ifp c6 h
          refine V_sub C [2, 3, 4, 5, 1, 0] rfl ?_
          exact v_X12_worked_66 C X ih h
def f_X12_worked (N : Nat) (S : St) (v1 : Int32) : Option (Int32 × St) :=
 f_X12_worked_14 N N S ((182 : Int32) + ((125 : Int32) * v1)) (0 : Int32) (0 : Int32)
set_option maxRecDepth 20000 in
theorem v_X12_worked_e {ε : eT} {κ : kT} {N : Nat} (C : Act ε κ cX12_worked 7 RX12 2) {S : St} {res : (Int32 × St)} (X : RI ε κ (some .int) (some (.int res.1)) res.2) {v1 : Int32} (h : f_X12_worked N S v1 = some res) : V ε κ 7 0 [(0, .ref (eA ε 172)), (1, .int v1)] [] (wsOf ε S) 0 0 := by
  unfold f_X12_worked at h
  refine V_sipush C dX12_worked_0 kc_s_182 ?_
  refine V_bipush C dX12_worked_3 kc_b_125 ?_
  refine V_iload_n C 1 dX12_worked_5 rfl rfl ?_
  refine V_imul C dX12_worked_6 ?_
  refine V_iadd C dX12_worked_7 ?_
  refine V_istore_n (lv' := [(2, .int ((182 : Int32) + ((125 : Int32) * v1))), (0, .ref (eA ε 172)), (1, .int v1)]) C dX12_worked_8 rfl (by decide) rfl ?_
  refine V_iconst C dX12_worked_9 kc_i_0 ?_
  refine V_istore_n (lv' := [(3, .int (0 : Int32)), (2, .int ((182 : Int32) + ((125 : Int32) * v1))), (0, .ref (eA ε 172)), (1, .int v1)]) C dX12_worked_10 rfl (by decide) rfl ?_
  refine V_iconst C dX12_worked_11 kc_i_0 ?_
  refine V_istore (lv' := [(4, .int (0 : Int32)), (3, .int (0 : Int32)), (2, .int ((182 : Int32) + ((125 : Int32) * v1))), (0, .ref (eA ε 172)), (1, .int v1)]) C dX12_worked_12 (by decide) rfl ?_
  refine V_sub C [3, 2, 1, 0] rfl ?_
  exact v_X12_worked_14 C X N _ _ _ _ h
theorem c_X12_worked {ε : eT} {N : Nat} {S : St} {v1 : Int32} {res : (Int32 × St)} (h : f_X12_worked N S v1 = some res) : CI ε yX12_worked cX12_worked 7 (some .int) 2 [.ref (eA ε 172), .int v1] S (some (.int res.1)) res.2 := CI_of (by decide) (Nat.le_of_ble_eq_true rfl) rfl (fun κ C X => v_X12_worked_e C X h)
def f_X12_namedBy (N : Nat) (S : St) (v1 : Int32) : Option (Int32 × St) :=
 bnd (f_X12_owner S v1) (fun a2 =>
 bnd (f_X12_valueTo S a2 v1) (fun a4 =>
 bnd (f_X12_who S a2 (0 : Int32)) (fun a6 =>
 (if a6 = 1 then
 some (a4, S)
 else
 (if a6 = 2 then
 some (((2 : Int32) * a4), S)
 else
 (if a6 = 3 then
 some ((a4 / (2 : Int32)), S)
 else
 (if a6 = 4 then
 bnd (f_X12_greatestElse N S v1) (fun a14 =>
 some ((a14 - (1 : Int32)), S))
 else
 (if a6 = 5 then
 bnd (f_X12_hasText S (0 : Int32)) (fun a16 =>
 (if a16 = 0 then
 some (a4, S)
 else
 bnd (f_X12_greatestElse N (pt S 178 118 a4) v1) (fun a19 =>
 bnd (f_X12_its (pt (pt S 178 118 a4) 178 109 a19) v1 (1 : Int32)) (fun a21 =>
 bnd2 (f_X12_worked N (pt (pt (pt (pt (pt S 178 118 a4) 178 109 a19) 178 112 a21) 178 114 ((pt (pt (pt S 178 118 a4) 178 109 a19) 178 112 a21).1 173 10)) 178 121 ((pt (pt (pt (pt S 178 118 a4) 178 109 a19) 178 112 a21) 178 114 ((pt (pt (pt S 178 118 a4) 178 109 a19) 178 112 a21).1 173 10)).1 173 3)) (0 : Int32)) (fun a23 S24 =>
 some (a23, S24))))))
 else
 (if a6 = 6 then
 bnd (f_X12_bestOf N S v1) (fun a26 =>
 some (a26, S))
 else
 bnd (f_X12_its S v1 (1 : Int32)) (fun a28 =>
 some (a28, S)))))))))))
set_option maxRecDepth 20000 in
theorem v_X12_namedBy_e {ε : eT} {κ : kT} {N : Nat} (C : Act ε κ cX12_namedBy 4 RX12 8) {S : St} {res : (Int32 × St)} (X : RI ε κ (some .int) (some (.int res.1)) res.2) {v1 : Int32} (h : f_X12_namedBy N S v1 = some res) : V ε κ 4 0 [(0, .ref (eA ε 172)), (1, .int v1)] [] (wsOf ε S) 0 0 := by
  unfold f_X12_namedBy at h
  refine V_aload_n C 0 dX12_namedBy_0 rfl rfl ?_
  refine V_iload_n C 1 dX12_namedBy_1 rfl rfl ?_
  obtain ⟨a2, e1, h⟩ := bnd_s h
  refine W_callvi C cf_X12_owner (c_X12_owner e1) q_ML_X12_67 (ws_X12 sk_172) rfl dX12_namedBy_2 (by decide) rfl rfl (Nat.le_of_ble_eq_true rfl) ?_
  refine V_istore_n (lv' := [(2, .int a2), (0, .ref (eA ε 172)), (1, .int v1)]) C dX12_namedBy_5 rfl (by decide) rfl ?_
  refine V_aload_n C 1 dX12_namedBy_6 rfl rfl ?_
  refine V_iload_n C 0 dX12_namedBy_7 rfl rfl ?_
  refine V_iload_n C 2 dX12_namedBy_8 rfl rfl ?_
  obtain ⟨a4, e3, h⟩ := bnd_s h
  refine W_callvi C cf_X12_valueTo (c_X12_valueTo e3) q_ML_X12_73 (ws_X12 sk_172) rfl dX12_namedBy_9 (by decide) rfl rfl (Nat.le_of_ble_eq_true rfl) ?_
  refine V_istore_n (lv' := [(3, .int a4), (2, .int a2), (0, .ref (eA ε 172)), (1, .int v1)]) C dX12_namedBy_12 rfl (by decide) rfl ?_
  refine V_aload_n C 2 dX12_namedBy_13 rfl rfl ?_
  refine V_iload_n C 1 dX12_namedBy_14 rfl rfl ?_
  refine V_iconst C dX12_namedBy_15 kc_i_0 ?_
  obtain ⟨a6, e5, h⟩ := bnd_s h
  refine W_callvi C cf_X12_who (c_X12_who e5) q_ML_X12_79 (ws_X12 sk_172) rfl dX12_namedBy_16 (by decide) rfl rfl (Nat.le_of_ble_eq_true rfl) ?_
  by_cases c7 : a6 = 1
  · replace h := ifp c7 h
    refine V_table C rfl dX12_namedBy_19 (off := 37) (by rw [c7]; decide +kernel) (tgt := 56) rfl ?_
    refine V_iload_n C 0 dX12_namedBy_56 rfl rfl ?_
    exact V_iret C X dX12_namedBy_57 ⟨ri_1 h, ri_2 h⟩
  · replace h := ifn c7 h
    by_cases c8 : a6 = 2
    · replace h := ifp c8 h
      refine V_table C rfl dX12_namedBy_19 (off := 39) (by rw [c8]; decide +kernel) (tgt := 58) rfl ?_
      refine V_iconst C dX12_namedBy_58 kc_i_2 ?_
      refine V_iload_n C 0 dX12_namedBy_59 rfl rfl ?_
      refine V_imul C dX12_namedBy_60 ?_
      exact V_iret C X dX12_namedBy_61 ⟨ri_1 h, ri_2 h⟩
    · replace h := ifn c8 h
      by_cases c9 : a6 = 3
      · replace h := ifp c9 h
        refine V_table C rfl dX12_namedBy_19 (off := 43) (by rw [c9]; decide +kernel) (tgt := 62) rfl ?_
        refine V_iload_n C 0 dX12_namedBy_62 rfl rfl ?_
        refine V_iconst C dX12_namedBy_63 kc_i_2 ?_
        refine V_idiv C dX12_namedBy_64 (by decide) ?_
        exact V_iret C X dX12_namedBy_65 ⟨ri_1 h, ri_2 h⟩
      · replace h := ifn c9 h
        by_cases c10 : a6 = 4
        · replace h := ifp c10 h
          refine V_table C rfl dX12_namedBy_19 (off := 47) (by rw [c10]; decide +kernel) (tgt := 66) rfl ?_
          refine V_aload_n C 2 dX12_namedBy_66 rfl rfl ?_
          refine V_iload_n C 3 dX12_namedBy_67 rfl rfl ?_
          obtain ⟨a14, e13, h⟩ := bnd_s h
          refine W_callvi C cf_X12_greatestElse (c_X12_greatestElse e13) q_ML_X12_159 (ws_X12 sk_172) rfl dX12_namedBy_68 (by decide) rfl rfl (Nat.le_of_ble_eq_true rfl) ?_
          refine V_iconst C dX12_namedBy_71 kc_i_1 ?_
          refine V_isub C dX12_namedBy_72 ?_
          exact V_iret C X dX12_namedBy_73 ⟨ri_1 h, ri_2 h⟩
        · replace h := ifn c10 h
          by_cases c11 : a6 = 5
          · replace h := ifp c11 h
            refine V_table C rfl dX12_namedBy_19 (off := 55) (by rw [c11]; decide +kernel) (tgt := 74) rfl ?_
            refine V_aload_n C 2 dX12_namedBy_74 rfl rfl ?_
            refine V_iconst C dX12_namedBy_75 kc_i_0 ?_
            obtain ⟨a16, e15, h⟩ := bnd_s h
            refine W_callvi C cf_X12_hasText (c_X12_hasText e15) q_ML_X12_152 (ws_X12 sk_172) rfl dX12_namedBy_76 (by decide) rfl rfl (Nat.le_of_ble_eq_true rfl) ?_
            refine V_if_ne C dX12_namedBy_79 rfl (fun c17 => ?_) (fun c17 => ?_)
            · replace h := ifn c17 h
              refine V_aload_n C 2 dX12_namedBy_84 rfl rfl ?_
              refine G_X12_named (q := 172) C sk_172 q_FL_X12_25 dX12_namedBy_85 ?_
              refine V_bipush C dX12_namedBy_88 kc_b_118 ?_
              refine V_iload_n C 0 dX12_namedBy_90 rfl rfl ?_
              refine W_iastc (q := 178) C sk_178 (j := 118) tn_118 (by decide) dX12_namedBy_91 ?_
              refine V_aload_n C 2 dX12_namedBy_92 rfl rfl ?_
              refine G_X12_named (q := 172) C sk_172 q_FL_X12_25 dX12_namedBy_93 ?_
              refine V_bipush C dX12_namedBy_96 kc_b_109 ?_
              refine V_aload_n C 2 dX12_namedBy_98 rfl rfl ?_
              refine V_iload_n C 3 dX12_namedBy_99 rfl rfl ?_
              obtain ⟨a19, e18, h⟩ := bnd_s h
              refine W_callvi C cf_X12_greatestElse (c_X12_greatestElse e18) q_ML_X12_159 (ws_X12 sk_172) rfl dX12_namedBy_100 (by decide) rfl rfl (Nat.le_of_ble_eq_true rfl) ?_
              refine W_iastc (q := 178) C sk_178 (j := 109) tn_109 (by decide) dX12_namedBy_103 ?_
              refine V_aload_n C 2 dX12_namedBy_104 rfl rfl ?_
              refine G_X12_named (q := 172) C sk_172 q_FL_X12_25 dX12_namedBy_105 ?_
              refine V_bipush C dX12_namedBy_108 kc_b_112 ?_
              refine V_aload_n C 2 dX12_namedBy_110 rfl rfl ?_
              refine V_iload_n C 3 dX12_namedBy_111 rfl rfl ?_
              refine V_iconst C dX12_namedBy_112 kc_i_1 ?_
              obtain ⟨a21, e20, h⟩ := bnd_s h
              refine W_callvi C cf_X12_its (c_X12_its e20) q_ML_X12_51 (ws_X12 sk_172) rfl dX12_namedBy_113 (by decide) rfl rfl (Nat.le_of_ble_eq_true rfl) ?_
              refine W_iastc (q := 178) C sk_178 (j := 112) tn_112 (by decide) dX12_namedBy_116 ?_
              refine V_aload_n C 2 dX12_namedBy_117 rfl rfl ?_
              refine G_X12_named (q := 172) C sk_172 q_FL_X12_25 dX12_namedBy_118 ?_
              refine V_bipush C dX12_namedBy_121 kc_b_114 ?_
              refine V_aload_n C 2 dX12_namedBy_123 rfl rfl ?_
              refine G_X12_s (q := 172) C sk_172 q_FL_X12_7 dX12_namedBy_124 ?_
              refine V_bipush C dX12_namedBy_127 kc_b_10 ?_
              refine W_ialdc (q := 173) C sk_173 (j := 10) tn_10 (by decide) dX12_namedBy_129 ?_
              refine W_iastc (q := 178) C sk_178 (j := 114) tn_114 (by decide) dX12_namedBy_130 ?_
              refine V_aload_n C 2 dX12_namedBy_131 rfl rfl ?_
              refine G_X12_named (q := 172) C sk_172 q_FL_X12_25 dX12_namedBy_132 ?_
              refine V_bipush C dX12_namedBy_135 kc_b_121 ?_
              refine V_aload_n C 2 dX12_namedBy_137 rfl rfl ?_
              refine G_X12_s (q := 172) C sk_172 q_FL_X12_7 dX12_namedBy_138 ?_
              refine V_iconst C dX12_namedBy_141 kc_i_3 ?_
              refine W_ialdc (q := 173) C sk_173 (j := 3) tn_3 (by decide) dX12_namedBy_142 ?_
              refine W_iastc (q := 178) C sk_178 (j := 121) tn_121 (by decide) dX12_namedBy_143 ?_
              refine V_aload_n C 2 dX12_namedBy_144 rfl rfl ?_
              refine V_iconst C dX12_namedBy_145 kc_i_0 ?_
              obtain ⟨a23, S24, e22, h⟩ := bnd2_s h
              refine W_callvi C cf_X12_worked (c_X12_worked e22) q_ML_X12_162 (ws_X12 sk_172) rfl dX12_namedBy_146 (by decide) rfl rfl (Nat.le_of_ble_eq_true rfl) ?_
              exact V_iret C X dX12_namedBy_149 ⟨ri_1 h, ri_2 h⟩
            · replace h := ifp c17 h
              refine V_iload_n C 0 dX12_namedBy_82 rfl rfl ?_
              exact V_iret C X dX12_namedBy_83 ⟨ri_1 h, ri_2 h⟩
          · replace h := ifn c11 h
            by_cases c12 : a6 = 6
            · replace h := ifp c12 h
              refine V_table C rfl dX12_namedBy_19 (off := 131) (by rw [c12]; decide +kernel) (tgt := 150) rfl ?_
              refine V_aload_n C 2 dX12_namedBy_150 rfl rfl ?_
              refine V_iload_n C 3 dX12_namedBy_151 rfl rfl ?_
              obtain ⟨a26, e25, h⟩ := bnd_s h
              refine W_callvi C cf_X12_bestOf (c_X12_bestOf e25) q_ML_X12_165 (ws_X12 sk_172) rfl dX12_namedBy_152 (by decide) rfl rfl (Nat.le_of_ble_eq_true rfl) ?_
              exact V_iret C X dX12_namedBy_155 ⟨ri_1 h, ri_2 h⟩
            · replace h := ifn c12 h
              refine V_table C rfl dX12_namedBy_19 (swt_d [(1 : Int32), (2 : Int32), (3 : Int32), (4 : Int32), (5 : Int32), (6 : Int32)] (List.forall_mem_cons.mpr ⟨c7, (List.forall_mem_cons.mpr ⟨c8, (List.forall_mem_cons.mpr ⟨c9, (List.forall_mem_cons.mpr ⟨c10, (List.forall_mem_cons.mpr ⟨c11, (List.forall_mem_cons.mpr ⟨c12, (fun _ h => absurd h List.not_mem_nil)⟩)⟩)⟩)⟩)⟩)⟩) rfl (by decide +kernel)) (tgt := 156) rfl ?_
              refine V_aload_n C 2 dX12_namedBy_156 rfl rfl ?_
              refine V_iload_n C 3 dX12_namedBy_157 rfl rfl ?_
              refine V_iconst C dX12_namedBy_158 kc_i_1 ?_
              obtain ⟨a28, e27, h⟩ := bnd_s h
              refine W_callvi C cf_X12_its (c_X12_its e27) q_ML_X12_51 (ws_X12 sk_172) rfl dX12_namedBy_159 (by decide) rfl rfl (Nat.le_of_ble_eq_true rfl) ?_
              exact V_iret C X dX12_namedBy_162 ⟨ri_1 h, ri_2 h⟩
theorem c_X12_namedBy {ε : eT} {N : Nat} {S : St} {v1 : Int32} {res : (Int32 × St)} (h : f_X12_namedBy N S v1 = some res) : CI ε yX12_namedBy cX12_namedBy 4 (some .int) 8 [.ref (eA ε 172), .int v1] S (some (.int res.1)) res.2 := CI_of (by decide) (Nat.le_of_ble_eq_true rfl) rfl (fun κ C X => v_X12_namedBy_e C X h)
def f_X12_held (S : St) (v0 : Int32) (v1 : Int32) (v2 : Int32) : Option Int32 :=
 (if v1 ≤ v0 then
 (if v0 ≤ v2 then
 some v0
 else
 some v2)
 else
 some v1)
set_option maxRecDepth 20000 in
theorem v_X12_held_e {ε : eT} {κ : kT} (C : Act ε κ cX12_held 3 RX12 1) {S : St} {res : Int32} (X : RI ε κ (some .int) (some (.int res)) S) {v0 : Int32} {v1 : Int32} {v2 : Int32} (h : f_X12_held S v0 v1 v2 = some res) : V ε κ 3 0 [(0, .int v0), (1, .int v1), (2, .int v2)] [] (wsOf ε S) 0 0 := by
  unfold f_X12_held at h
  refine V_iload_n C 0 dX12_held_0 rfl rfl ?_
  refine V_iload_n C 1 dX12_held_1 rfl rfl ?_
  refine V_icmp_ge C dX12_held_2 rfl (fun c1 => ?_) (fun c1 => ?_)
  · replace h := ifp c1 h
    refine V_iload_n C 0 dX12_held_9 rfl rfl ?_
    refine V_iload_n C 2 dX12_held_10 rfl rfl ?_
    refine V_icmp_le C dX12_held_11 rfl (fun c2 => ?_) (fun c2 => ?_)
    · replace h := ifp c2 h
      refine V_iload_n C 0 dX12_held_18 rfl rfl ?_
      exact V_iret C X dX12_held_19 ⟨rip_1 h, rfl⟩
    · replace h := ifn c2 h
      refine V_iload_n C 2 dX12_held_14 rfl rfl ?_
      refine V_goto C dX12_held_15 rfl ?_
      exact V_iret C X dX12_held_19 ⟨rip_1 h, rfl⟩
  · replace h := ifn c1 h
    refine V_iload_n C 1 dX12_held_5 rfl rfl ?_
    refine V_goto C dX12_held_6 rfl ?_
    exact V_iret C X dX12_held_19 ⟨rip_1 h, rfl⟩
theorem c_X12_held {ε : eT} {S : St} {v0 : Int32} {v1 : Int32} {v2 : Int32} {res : Int32} (h : f_X12_held S v0 v1 v2 = some res) : CI ε yX12_held cX12_held 3 (some .int) 1 [.int v0, .int v1, .int v2] S (some (.int res)) S := CI_of (by decide) (Nat.le_of_ble_eq_true rfl) rfl (fun κ C X => v_X12_held_e C X h)
def f_X12_names (N : Nat) (S : St) (v1 : Int32) : Option (Int32 × St) :=
 bnd2 (f_X12_namedBy N S v1) (fun a2 S3 =>
 bnd (f_X12_held S3 a2 (0 : Int32) (9999 : Int32)) (fun a5 =>
 some (a5, S3)))
set_option maxRecDepth 20000 in
theorem v_X12_names_e {ε : eT} {κ : kT} {N : Nat} (C : Act ε κ cX12_names 2 RX12 9) {S : St} {res : (Int32 × St)} (X : RI ε κ (some .int) (some (.int res.1)) res.2) {v1 : Int32} (h : f_X12_names N S v1 = some res) : V ε κ 2 0 [(0, .ref (eA ε 172)), (1, .int v1)] [] (wsOf ε S) 0 0 := by
  unfold f_X12_names at h
  refine V_aload_n C 0 dX12_names_0 rfl rfl ?_
  refine V_iload_n C 1 dX12_names_1 rfl rfl ?_
  obtain ⟨a2, S3, e1, h⟩ := bnd2_s h
  refine W_callvi C cf_X12_namedBy (c_X12_namedBy e1) q_ML_X12_168 (ws_X12 sk_172) rfl dX12_names_2 (by decide) rfl rfl (Nat.le_of_ble_eq_true rfl) ?_
  refine V_iconst C dX12_names_5 kc_i_0 ?_
  refine V_sipush C dX12_names_6 kc_s_9999 ?_
  obtain ⟨a5, e4, h⟩ := bnd_s h
  refine W_callsi C cf_X12_held (c_X12_held e4) q_ML_X12_171 dX12_names_9 (by decide) rfl rfl (Nat.le_of_ble_eq_true rfl) ?_
  exact V_iret C X dX12_names_12 ⟨ri_1 h, ri_2 h⟩
theorem c_X12_names {ε : eT} {N : Nat} {S : St} {v1 : Int32} {res : (Int32 × St)} (h : f_X12_names N S v1 = some res) : CI ε yX12_names cX12_names 2 (some .int) 9 [.ref (eA ε 172), .int v1] S (some (.int res.1)) res.2 := CI_of (by decide) (Nat.le_of_ble_eq_true rfl) rfl (fun κ C X => v_X12_names_e C X h)
def f_X12_pays_97 (S : St) (s0 : Int32) (s1 : Int32) : Option St :=
 (if inb s1 516 = true then
 some (pt S 173 s1.toNatClampNeg s0)
 else none)
set_option maxRecDepth 20000 in
theorem v_X12_pays_97 {ε : eT} {κ : kT} (C : Act ε κ cX12_pays 5 RX12 3) {S : St} {res : St} (X : RI ε κ none none res) {s0 : Int32} {s1 : Int32} (h : f_X12_pays_97 S s0 s1 = some res) : V ε κ 5 97 [] [.int s0, .int s1, .ref (eA ε 173)] (wsOf ε S) 0 0 := by
  unfold f_X12_pays_97 at h
  obtain ⟨g1, h⟩ := gdt h
  refine W_iast (q := 173) C sk_173 g1 dX12_pays_97 ?_
  exact V_vret C X dX12_pays_98 ⟨rfl, rv_2 h⟩
def f_X12_pays_44 (S : St) (v2 : Int32) (s0 : Int32) : Option St :=
 (if inb (((20 : Int32) + ((4 : Int32) * v2)) + (1 : Int32)) 516 = true then
 (if inb (((20 : Int32) + ((4 : Int32) * v2)) + (1 : Int32)) 516 = true then
 (if s0 ≤ ((1999999999 : Int32) - ((pt S 173 (((20 : Int32) + ((4 : Int32) * v2)) + (1 : Int32)).toNatClampNeg ((S.1 173 (((20 : Int32) + ((4 : Int32) * v2)) + (1 : Int32)).toNatClampNeg) - s0)).1 173 5)) then
 f_X12_pays_97 (pt S 173 (((20 : Int32) + ((4 : Int32) * v2)) + (1 : Int32)).toNatClampNeg ((S.1 173 (((20 : Int32) + ((4 : Int32) * v2)) + (1 : Int32)).toNatClampNeg) - s0)) (((pt S 173 (((20 : Int32) + ((4 : Int32) * v2)) + (1 : Int32)).toNatClampNeg ((S.1 173 (((20 : Int32) + ((4 : Int32) * v2)) + (1 : Int32)).toNatClampNeg) - s0)).1 173 5) + s0) (5 : Int32)
 else
 f_X12_pays_97 (pt S 173 (((20 : Int32) + ((4 : Int32) * v2)) + (1 : Int32)).toNatClampNeg ((S.1 173 (((20 : Int32) + ((4 : Int32) * v2)) + (1 : Int32)).toNatClampNeg) - s0)) (1999999999 : Int32) (5 : Int32))
 else none)
 else none)
set_option maxRecDepth 20000 in
theorem v_X12_pays_44 {ε : eT} {κ : kT} (C : Act ε κ cX12_pays 5 RX12 3) {S : St} {res : St} (X : RI ε κ none none res) {v2 : Int32} {s0 : Int32} (h : f_X12_pays_44 S v2 s0 = some res) : V ε κ 5 44 [(0, .ref (eA ε 172)), (2, .int v2)] [.int s0] (wsOf ε S) 0 0 := by
  unfold f_X12_pays_44 at h
  refine V_istore (lv' := [(4, .int s0), (0, .ref (eA ε 172)), (2, .int v2)]) C dX12_pays_44 (by decide) rfl ?_
  refine V_aload_n C 1 dX12_pays_46 rfl rfl ?_
  refine G_X12_s (q := 172) C sk_172 q_FL_X12_7 dX12_pays_47 ?_
  refine V_bipush C dX12_pays_50 kc_b_20 ?_
  refine V_iconst C dX12_pays_52 kc_i_4 ?_
  refine V_iload_n C 2 dX12_pays_53 rfl rfl ?_
  refine V_imul C dX12_pays_54 ?_
  refine V_iadd C dX12_pays_55 ?_
  refine V_iconst C dX12_pays_56 kc_i_1 ?_
  refine V_iadd C dX12_pays_57 ?_
  refine V_dup2 C dX12_pays_58 rfl rfl ?_
  obtain ⟨g1, h⟩ := gdt h
  refine W_iald (q := 173) C sk_173 g1 dX12_pays_59 ?_
  refine V_iload C 0 dX12_pays_60 rfl ?_
  refine V_isub C dX12_pays_62 ?_
  obtain ⟨g2, h⟩ := gdt h
  refine W_iast (q := 173) C sk_173 g2 dX12_pays_63 ?_
  refine V_aload_n C 1 dX12_pays_64 rfl rfl ?_
  refine G_X12_s (q := 172) C sk_172 q_FL_X12_7 dX12_pays_65 ?_
  refine V_iconst C dX12_pays_68 kc_i_5 ?_
  refine V_iload C 0 dX12_pays_69 rfl ?_
  refine V_ldc C q_K_X12_181 dX12_pays_71 ?_
  refine V_aload_n C 1 dX12_pays_73 rfl rfl ?_
  refine G_X12_s (q := 172) C sk_172 q_FL_X12_7 dX12_pays_74 ?_
  refine V_iconst C dX12_pays_77 kc_i_5 ?_
  refine W_ialdc (q := 173) C sk_173 (j := 5) tn_5 (by decide) dX12_pays_78 ?_
  refine V_isub C dX12_pays_79 ?_
  refine V_icmp_le C dX12_pays_80 rfl (fun c3 => ?_) (fun c3 => ?_)
  · replace h := ifp c3 h
    refine V_aload_n C 1 dX12_pays_88 rfl rfl ?_
    refine G_X12_s (q := 172) C sk_172 q_FL_X12_7 dX12_pays_89 ?_
    refine V_iconst C dX12_pays_92 kc_i_5 ?_
    refine W_ialdc (q := 173) C sk_173 (j := 5) tn_5 (by decide) dX12_pays_93 ?_
    refine V_iload C 0 dX12_pays_94 rfl ?_
    refine V_iadd C dX12_pays_96 ?_
    refine V_sub C [] rfl ?_
    exact v_X12_pays_97 C X h
  · replace h := ifn c3 h
    refine V_ldc C q_K_X12_181 dX12_pays_83 ?_
    refine V_goto C dX12_pays_85 rfl ?_
    refine V_sub C [] rfl ?_
    exact v_X12_pays_97 C X h
def f_X12_pays (S : St) (v1 : Int32) : Option St :=
 bnd (f_X12_owner S v1) (fun a2 =>
 bnd (f_X12_its S v1 (1 : Int32)) (fun a4 =>
 bnd (f_X12_who S a2 (1 : Int32)) (fun a6 =>
 (if a6 ≤ (((S.1 173 10) * a4) / (100 : Int32)) then
 bnd (f_X12_who S a2 (1 : Int32)) (fun a9 =>
 f_X12_pays_44 S a2 a9)
 else
 f_X12_pays_44 S a2 (((S.1 173 10) * a4) / (100 : Int32))))))
set_option maxRecDepth 20000 in
theorem v_X12_pays_e {ε : eT} {κ : kT} (C : Act ε κ cX12_pays 5 RX12 3) {S : St} {res : St} (X : RI ε κ none none res) {v1 : Int32} (h : f_X12_pays S v1 = some res) : V ε κ 5 0 [(0, .ref (eA ε 172)), (1, .int v1)] [] (wsOf ε S) 0 0 := by
  unfold f_X12_pays at h
  refine V_aload_n C 0 dX12_pays_0 rfl rfl ?_
  refine V_iload_n C 1 dX12_pays_1 rfl rfl ?_
  obtain ⟨a2, e1, h⟩ := bnd_s h
  refine W_callvi C cf_X12_owner (c_X12_owner e1) q_ML_X12_67 (ws_X12 sk_172) rfl dX12_pays_2 (by decide) rfl rfl (Nat.le_of_ble_eq_true rfl) ?_
  refine V_istore_n (lv' := [(2, .int a2), (0, .ref (eA ε 172)), (1, .int v1)]) C dX12_pays_5 rfl (by decide) rfl ?_
  refine V_aload_n C 1 dX12_pays_6 rfl rfl ?_
  refine G_X12_s (q := 172) C sk_172 q_FL_X12_7 dX12_pays_7 ?_
  refine V_bipush C dX12_pays_10 kc_b_10 ?_
  refine W_ialdc (q := 173) C sk_173 (j := 10) tn_10 (by decide) dX12_pays_12 ?_
  refine V_aload_n C 1 dX12_pays_13 rfl rfl ?_
  refine V_iload_n C 2 dX12_pays_14 rfl rfl ?_
  refine V_iconst C dX12_pays_15 kc_i_1 ?_
  obtain ⟨a4, e3, h⟩ := bnd_s h
  refine W_callvi C cf_X12_its (c_X12_its e3) q_ML_X12_51 (ws_X12 sk_172) rfl dX12_pays_16 (by decide) rfl rfl (Nat.le_of_ble_eq_true rfl) ?_
  refine V_imul C dX12_pays_19 ?_
  refine V_bipush C dX12_pays_20 kc_b_100 ?_
  refine V_idiv C dX12_pays_22 (by decide) ?_
  refine V_istore_n (lv' := [(3, .int (((S.1 173 10) * a4) / (100 : Int32))), (2, .int a2), (0, .ref (eA ε 172)), (1, .int v1)]) C dX12_pays_23 rfl (by decide) rfl ?_
  refine V_iload_n C 0 dX12_pays_24 rfl rfl ?_
  refine V_aload_n C 2 dX12_pays_25 rfl rfl ?_
  refine V_iload_n C 1 dX12_pays_26 rfl rfl ?_
  refine V_iconst C dX12_pays_27 kc_i_1 ?_
  obtain ⟨a6, e5, h⟩ := bnd_s h
  refine W_callvi C cf_X12_who (c_X12_who e5) q_ML_X12_79 (ws_X12 sk_172) rfl dX12_pays_28 (by decide) rfl rfl (Nat.le_of_ble_eq_true rfl) ?_
  refine V_icmp_ge C dX12_pays_31 rfl (fun c7 => ?_) (fun c7 => ?_)
  · replace h := ifp c7 h
    refine V_aload_n C 2 dX12_pays_38 rfl rfl ?_
    refine V_iload_n C 1 dX12_pays_39 rfl rfl ?_
    refine V_iconst C dX12_pays_40 kc_i_1 ?_
    obtain ⟨a9, e8, h⟩ := bnd_s h
    refine W_callvi C cf_X12_who (c_X12_who e8) q_ML_X12_79 (ws_X12 sk_172) rfl dX12_pays_41 (by decide) rfl rfl (Nat.le_of_ble_eq_true rfl) ?_
    refine V_sub C [2, 1] rfl ?_
    exact v_X12_pays_44 C X h
  · replace h := ifn c7 h
    refine V_iload_n C 0 dX12_pays_34 rfl rfl ?_
    refine V_goto C dX12_pays_35 rfl ?_
    refine V_sub C [2, 1] rfl ?_
    exact v_X12_pays_44 C X h
theorem c_X12_pays {ε : eT} {S : St} {v1 : Int32} {res : St} (h : f_X12_pays S v1 = some res) : CI ε yX12_pays cX12_pays 5 none 3 [.ref (eA ε 172), .int v1] S none res := CI_of (by decide) (Nat.le_of_ble_eq_true rfl) rfl (fun κ C X => v_X12_pays_e C X h)
def f_X12_isAsked_170 (N : Nat) (K16 : St → Int32 → Int32 → Int32 → Int32 → Option St) (S : St) (v1 : Int32) (v2 : Int32) (v3 : Int32) (v4 : Int32) : Option St :=
 K16 S v1 v2 v3 (v4 + 1)
set_option maxRecDepth 20000 in
theorem v_X12_isAsked_170 {ε : eT} {κ : kT} {N : Nat} (C : Act ε κ cX12_isAsked 6 RX12 3) {S : St} {res : St} (X : RI ε κ none none res) {K16 : St → Int32 → Int32 → Int32 → Int32 → Option St} (hK16 : ∀ (S : St) (v1 : Int32) (v2 : Int32) (v3 : Int32) (v4 : Int32), K16 S v1 v2 v3 v4 = some res → V ε κ 6 16 [(0, .ref (eA ε 172)), (1, .int v1), (2, .int v2), (3, .int v3), (4, .int v4)] [] (wsOf ε S) 0 0) {v1 : Int32} {v2 : Int32} {v3 : Int32} {v4 : Int32} (h : f_X12_isAsked_170 N K16 S v1 v2 v3 v4 = some res) : V ε κ 6 170 [(0, .ref (eA ε 172)), (1, .int v1), (2, .int v2), (3, .int v3), (4, .int v4)] [] (wsOf ε S) 0 0 := by
  unfold f_X12_isAsked_170 at h
  refine V_iinc (v := (v4 + 1)) (lv' := [(4, .int (v4 + 1)), (0, .ref (eA ε 172)), (1, .int v1), (2, .int v2), (3, .int v3)]) C 4 dX12_isAsked_170 rfl (congrArg _ kc_i_1) (by decide) rfl ?_
  refine V_goto C dX12_isAsked_173 rfl ?_
  refine V_sub C [1, 2, 3, 4, 0] rfl ?_
  exact hK16 _ _ _ _ _ h
def f_X12_isAsked_168 (N : Nat) (S : St) (s0 : Int32) (s1 : Int32) : Option St :=
 (if inb s1 516 = true then
 some (pt S 173 s1.toNatClampNeg s0)
 else none)
set_option maxRecDepth 20000 in
theorem v_X12_isAsked_168 {ε : eT} {κ : kT} {N : Nat} (C : Act ε κ cX12_isAsked 6 RX12 3) {S : St} {res : St} (X : RI ε κ none none res) {s0 : Int32} {s1 : Int32} (h : f_X12_isAsked_168 N S s0 s1 = some res) : V ε κ 6 168 [] [.int s0, .int s1, .ref (eA ε 173)] (wsOf ε S) 0 0 := by
  unfold f_X12_isAsked_168 at h
  obtain ⟨g1, h⟩ := gdt h
  refine W_iast (q := 173) C sk_173 g1 dX12_isAsked_168 ?_
  exact V_vret C X dX12_isAsked_169 ⟨rfl, rv_2 h⟩
def f_X12_isAsked_16 (N : Nat) : Nat → St → Int32 → Int32 → Int32 → Int32 → Option St
  | 0, _, _, _, _, _ => none
  | n + 1, S, v1, v2, v3, v4 =>
    (if (S.1 173 0) ≤ v4 then
     some S
     else
     (if v4 = v2 then
     f_X12_isAsked_170 N (f_X12_isAsked_16 N n) S v1 v2 v3 v4
     else
     bnd2 (f_X12_draw S) (fun a4 S5 =>
     bnd (f_X12_who S5 v4 (3 : Int32)) (fun a7 =>
     (if a7 = 0 then none else
     bnd (f_X12_who S5 v4 (2 : Int32)) (fun a10 =>
     (if (a4 - a4 / a7 * a7) < a10 then
     bnd (f_X12_valueTo S5 v4 v1) (fun a13 =>
     (if a13 ≤ v3 then
     f_X12_isAsked_170 N (f_X12_isAsked_16 N n) S5 v1 v2 v3 v4
     else
     bnd (f_X12_who S5 v4 (1 : Int32)) (fun a16 =>
     (if a16 < v3 then
     f_X12_isAsked_170 N (f_X12_isAsked_16 N n) S5 v1 v2 v3 v4
     else
     (if inb (((20 : Int32) + ((4 : Int32) * v4)) + (1 : Int32)) 516 = true then
     (if inb (((20 : Int32) + ((4 : Int32) * v4)) + (1 : Int32)) 516 = true then
     bnd (f_X12_gets (pt S5 173 (((20 : Int32) + ((4 : Int32) * v4)) + (1 : Int32)).toNatClampNeg ((S5.1 173 (((20 : Int32) + ((4 : Int32) * v4)) + (1 : Int32)).toNatClampNeg) - v3)) v2 v3) (fun S21 =>
     (if inb (((44 : Int32) + ((4 : Int32) * v1)) + (0 : Int32)) 516 = true then
     bnd (f_X12_its (pt (pt S21 173 (((44 : Int32) + ((4 : Int32) * v1)) + (0 : Int32)).toNatClampNeg v4) 173 4 (((pt S21 173 (((44 : Int32) + ((4 : Int32) * v1)) + (0 : Int32)).toNatClampNeg v4).1 173 4) + (1 : Int32))) v1 (2 : Int32)) (fun a24 =>
     (if 0 ≤ (a24 - ((pt (pt S21 173 (((44 : Int32) + ((4 : Int32) * v1)) + (0 : Int32)).toNatClampNeg v4) 173 4 (((pt S21 173 (((44 : Int32) + ((4 : Int32) * v1)) + (0 : Int32)).toNatClampNeg v4).1 173 4) + (1 : Int32))).1 173 11)) then
     f_X12_isAsked_168 N (pt (pt S21 173 (((44 : Int32) + ((4 : Int32) * v1)) + (0 : Int32)).toNatClampNeg v4) 173 4 (((pt S21 173 (((44 : Int32) + ((4 : Int32) * v1)) + (0 : Int32)).toNatClampNeg v4).1 173 4) + (1 : Int32))) (a24 - ((pt (pt S21 173 (((44 : Int32) + ((4 : Int32) * v1)) + (0 : Int32)).toNatClampNeg v4) 173 4 (((pt S21 173 (((44 : Int32) + ((4 : Int32) * v1)) + (0 : Int32)).toNatClampNeg v4).1 173 4) + (1 : Int32))).1 173 11)) (((44 : Int32) + ((4 : Int32) * v1)) + (2 : Int32))
     else
     f_X12_isAsked_168 N (pt (pt S21 173 (((44 : Int32) + ((4 : Int32) * v1)) + (0 : Int32)).toNatClampNeg v4) 173 4 (((pt S21 173 (((44 : Int32) + ((4 : Int32) * v1)) + (0 : Int32)).toNatClampNeg v4).1 173 4) + (1 : Int32))) (0 : Int32) (((44 : Int32) + ((4 : Int32) * v1)) + (2 : Int32))))
     else none))
     else none)
     else none)))))
     else
     f_X12_isAsked_170 N (f_X12_isAsked_16 N n) S5 v1 v2 v3 v4)))))))
set_option maxRecDepth 20000 in
theorem v_X12_isAsked_16 {ε : eT} {κ : kT} {N : Nat} (C : Act ε κ cX12_isAsked 6 RX12 3) {res : St} (X : RI ε κ none none res) : ∀ (n : Nat) (S : St) (v1 : Int32) (v2 : Int32) (v3 : Int32) (v4 : Int32) (h : f_X12_isAsked_16 N n S v1 v2 v3 v4 = some res), V ε κ 6 16 [(0, .ref (eA ε 172)), (1, .int v1), (2, .int v2), (3, .int v3), (4, .int v4)] [] (wsOf ε S) 0 0 := by
  intro n
  induction n with
  | zero => intro S v1 v2 v3 v4 h; cases h
  | succ n ih =>
    intro S v1 v2 v3 v4 h
    rw [f_X12_isAsked_16] at h
    refine V_iload C 4 dX12_isAsked_16 rfl ?_
    refine V_aload_n C 0 dX12_isAsked_18 rfl rfl ?_
    refine G_X12_s (q := 172) C sk_172 q_FL_X12_7 dX12_isAsked_19 ?_
    refine V_iconst C dX12_isAsked_22 kc_i_0 ?_
    refine W_ialdc (q := 173) C sk_173 (j := 0) tn_0 (by decide) dX12_isAsked_23 ?_
    refine V_icmp_ge C dX12_isAsked_24 rfl (fun c1 => ?_) (fun c1 => ?_)
    · replace h := ifp c1 h
      exact V_vret C X dX12_isAsked_176 ⟨rfl, rv_2 h⟩
    · replace h := ifn c1 h
      refine V_iload C 4 dX12_isAsked_27 rfl ?_
      refine V_iload_n C 2 dX12_isAsked_29 rfl rfl ?_
      refine V_icmp_eq C dX12_isAsked_30 rfl (fun c2 => ?_) (fun c2 => ?_)
      · replace h := ifp c2 h
        exact v_X12_isAsked_170 C X ih h
      · replace h := ifn c2 h
        refine V_aload_n C 0 dX12_isAsked_33 rfl rfl ?_
        obtain ⟨a4, S5, e3, h⟩ := bnd2_s h
        refine W_callvi C cf_X12_draw (c_X12_draw e3) q_ML_X12_182 (ws_X12 sk_172) rfl dX12_isAsked_34 (by decide) rfl rfl (Nat.le_of_ble_eq_true rfl) ?_
        refine V_aload_n C 0 dX12_isAsked_37 rfl rfl ?_
        refine V_iload C 4 dX12_isAsked_38 rfl ?_
        refine V_iconst C dX12_isAsked_40 kc_i_3 ?_
        obtain ⟨a7, e6, h⟩ := bnd_s h
        refine W_callvi C cf_X12_who (c_X12_who e6) q_ML_X12_79 (ws_X12 sk_172) rfl dX12_isAsked_41 (by decide) rfl rfl (Nat.le_of_ble_eq_true rfl) ?_
        obtain ⟨g8, h⟩ := gdf h
        refine V_irem C dX12_isAsked_44 g8 ?_
        refine V_aload_n C 0 dX12_isAsked_45 rfl rfl ?_
        refine V_iload C 4 dX12_isAsked_46 rfl ?_
        refine V_iconst C dX12_isAsked_48 kc_i_2 ?_
        obtain ⟨a10, e9, h⟩ := bnd_s h
        refine W_callvi C cf_X12_who (c_X12_who e9) q_ML_X12_79 (ws_X12 sk_172) rfl dX12_isAsked_49 (by decide) rfl rfl (Nat.le_of_ble_eq_true rfl) ?_
        refine V_icmp_lt C dX12_isAsked_52 rfl (fun c11 => ?_) (fun c11 => ?_)
        · replace h := ifp c11 h
          refine V_aload_n C 0 dX12_isAsked_58 rfl rfl ?_
          refine V_iload C 4 dX12_isAsked_59 rfl ?_
          refine V_iload_n C 1 dX12_isAsked_61 rfl rfl ?_
          obtain ⟨a13, e12, h⟩ := bnd_s h
          refine W_callvi C cf_X12_valueTo (c_X12_valueTo e12) q_ML_X12_73 (ws_X12 sk_172) rfl dX12_isAsked_62 (by decide) rfl rfl (Nat.le_of_ble_eq_true rfl) ?_
          refine V_iload_n C 3 dX12_isAsked_65 rfl rfl ?_
          refine V_icmp_le C dX12_isAsked_66 rfl (fun c14 => ?_) (fun c14 => ?_)
          · replace h := ifp c14 h
            exact v_X12_isAsked_170 C X ih h
          · replace h := ifn c14 h
            refine V_aload_n C 0 dX12_isAsked_69 rfl rfl ?_
            refine V_iload C 4 dX12_isAsked_70 rfl ?_
            refine V_iconst C dX12_isAsked_72 kc_i_1 ?_
            obtain ⟨a16, e15, h⟩ := bnd_s h
            refine W_callvi C cf_X12_who (c_X12_who e15) q_ML_X12_79 (ws_X12 sk_172) rfl dX12_isAsked_73 (by decide) rfl rfl (Nat.le_of_ble_eq_true rfl) ?_
            refine V_iload_n C 3 dX12_isAsked_76 rfl rfl ?_
            refine V_icmp_lt C dX12_isAsked_77 rfl (fun c17 => ?_) (fun c17 => ?_)
            · replace h := ifp c17 h
              exact v_X12_isAsked_170 C X ih h
            · replace h := ifn c17 h
              refine V_aload_n C 0 dX12_isAsked_80 rfl rfl ?_
              refine G_X12_s (q := 172) C sk_172 q_FL_X12_7 dX12_isAsked_81 ?_
              refine V_bipush C dX12_isAsked_84 kc_b_20 ?_
              refine V_iconst C dX12_isAsked_86 kc_i_4 ?_
              refine V_iload C 4 dX12_isAsked_87 rfl ?_
              refine V_imul C dX12_isAsked_89 ?_
              refine V_iadd C dX12_isAsked_90 ?_
              refine V_iconst C dX12_isAsked_91 kc_i_1 ?_
              refine V_iadd C dX12_isAsked_92 ?_
              refine V_dup2 C dX12_isAsked_93 rfl rfl ?_
              obtain ⟨g18, h⟩ := gdt h
              refine W_iald (q := 173) C sk_173 g18 dX12_isAsked_94 ?_
              refine V_iload_n C 3 dX12_isAsked_95 rfl rfl ?_
              refine V_isub C dX12_isAsked_96 ?_
              obtain ⟨g19, h⟩ := gdt h
              refine W_iast (q := 173) C sk_173 g19 dX12_isAsked_97 ?_
              refine V_aload_n C 0 dX12_isAsked_98 rfl rfl ?_
              refine V_iload_n C 2 dX12_isAsked_99 rfl rfl ?_
              refine V_iload_n C 3 dX12_isAsked_100 rfl rfl ?_
              obtain ⟨S21, e20, h⟩ := bnd_s h
              refine W_callvn C cf_X12_gets (c_X12_gets e20) q_ML_X12_185 (ws_X12 sk_172) rfl dX12_isAsked_101 (by decide) rfl rfl (Nat.le_of_ble_eq_true rfl) ?_
              refine V_aload_n C 0 dX12_isAsked_104 rfl rfl ?_
              refine G_X12_s (q := 172) C sk_172 q_FL_X12_7 dX12_isAsked_105 ?_
              refine V_bipush C dX12_isAsked_108 kc_b_44 ?_
              refine V_iconst C dX12_isAsked_110 kc_i_4 ?_
              refine V_iload_n C 1 dX12_isAsked_111 rfl rfl ?_
              refine V_imul C dX12_isAsked_112 ?_
              refine V_iadd C dX12_isAsked_113 ?_
              refine V_iconst C dX12_isAsked_114 kc_i_0 ?_
              refine V_iadd C dX12_isAsked_115 ?_
              refine V_iload C 4 dX12_isAsked_116 rfl ?_
              obtain ⟨g22, h⟩ := gdt h
              refine W_iast (q := 173) C sk_173 g22 dX12_isAsked_118 ?_
              refine V_aload_n C 0 dX12_isAsked_119 rfl rfl ?_
              refine G_X12_s (q := 172) C sk_172 q_FL_X12_7 dX12_isAsked_120 ?_
              refine V_iconst C dX12_isAsked_123 kc_i_4 ?_
              refine V_dup2 C dX12_isAsked_124 rfl rfl ?_
              refine W_ialdc (q := 173) C sk_173 (j := 4) tn_4 (by decide) dX12_isAsked_125 ?_
              refine V_iconst C dX12_isAsked_126 kc_i_1 ?_
              refine V_iadd C dX12_isAsked_127 ?_
              refine W_iastc (q := 173) C sk_173 (j := 4) tn_4 (by decide) dX12_isAsked_128 ?_
              refine V_aload_n C 0 dX12_isAsked_129 rfl rfl ?_
              refine V_iload_n C 1 dX12_isAsked_130 rfl rfl ?_
              refine V_iconst C dX12_isAsked_131 kc_i_2 ?_
              obtain ⟨a24, e23, h⟩ := bnd_s h
              refine W_callvi C cf_X12_its (c_X12_its e23) q_ML_X12_51 (ws_X12 sk_172) rfl dX12_isAsked_132 (by decide) rfl rfl (Nat.le_of_ble_eq_true rfl) ?_
              refine V_aload_n C 0 dX12_isAsked_135 rfl rfl ?_
              refine G_X12_s (q := 172) C sk_172 q_FL_X12_7 dX12_isAsked_136 ?_
              refine V_bipush C dX12_isAsked_139 kc_b_11 ?_
              refine W_ialdc (q := 173) C sk_173 (j := 11) tn_11 (by decide) dX12_isAsked_141 ?_
              refine V_isub C dX12_isAsked_142 ?_
              refine V_istore (lv' := [(5, .int (a24 - ((pt (pt S21 173 (((44 : Int32) + ((4 : Int32) * v1)) + (0 : Int32)).toNatClampNeg v4) 173 4 (((pt S21 173 (((44 : Int32) + ((4 : Int32) * v1)) + (0 : Int32)).toNatClampNeg v4).1 173 4) + (1 : Int32))).1 173 11))), (0, .ref (eA ε 172)), (1, .int v1), (2, .int v2), (3, .int v3), (4, .int v4)]) C dX12_isAsked_143 (by decide) rfl ?_
              refine V_aload_n C 1 dX12_isAsked_145 rfl rfl ?_
              refine G_X12_s (q := 172) C sk_172 q_FL_X12_7 dX12_isAsked_146 ?_
              refine V_bipush C dX12_isAsked_149 kc_b_44 ?_
              refine V_iconst C dX12_isAsked_151 kc_i_4 ?_
              refine V_iload_n C 2 dX12_isAsked_152 rfl rfl ?_
              refine V_imul C dX12_isAsked_153 ?_
              refine V_iadd C dX12_isAsked_154 ?_
              refine V_iconst C dX12_isAsked_155 kc_i_2 ?_
              refine V_iadd C dX12_isAsked_156 ?_
              refine V_iload C 0 dX12_isAsked_157 rfl ?_
              refine V_if_ge C dX12_isAsked_159 rfl (fun c25 => ?_) (fun c25 => ?_)
              · replace h := ifp c25 h
                refine V_iload C 0 dX12_isAsked_166 rfl ?_
                refine V_sub C [] rfl ?_
                exact v_X12_isAsked_168 C X h
              · replace h := ifn c25 h
                refine V_iconst C dX12_isAsked_162 kc_i_0 ?_
                refine V_goto C dX12_isAsked_163 rfl ?_
                refine V_sub C [] rfl ?_
                exact v_X12_isAsked_168 C X h
        · replace h := ifn c11 h
          refine V_goto C dX12_isAsked_55 rfl ?_
          exact v_X12_isAsked_170 C X ih h
def f_X12_isAsked (N : Nat) (S : St) (v1 : Int32) : Option St :=
 bnd (f_X12_owner S v1) (fun a2 =>
 bnd (f_X12_its S v1 (1 : Int32)) (fun a4 =>
 f_X12_isAsked_16 N N S v1 a2 a4 (0 : Int32)))
set_option maxRecDepth 20000 in
theorem v_X12_isAsked_e {ε : eT} {κ : kT} {N : Nat} (C : Act ε κ cX12_isAsked 6 RX12 3) {S : St} {res : St} (X : RI ε κ none none res) {v1 : Int32} (h : f_X12_isAsked N S v1 = some res) : V ε κ 6 0 [(0, .ref (eA ε 172)), (1, .int v1)] [] (wsOf ε S) 0 0 := by
  unfold f_X12_isAsked at h
  refine V_aload_n C 0 dX12_isAsked_0 rfl rfl ?_
  refine V_iload_n C 1 dX12_isAsked_1 rfl rfl ?_
  obtain ⟨a2, e1, h⟩ := bnd_s h
  refine W_callvi C cf_X12_owner (c_X12_owner e1) q_ML_X12_67 (ws_X12 sk_172) rfl dX12_isAsked_2 (by decide) rfl rfl (Nat.le_of_ble_eq_true rfl) ?_
  refine V_istore_n (lv' := [(2, .int a2), (0, .ref (eA ε 172)), (1, .int v1)]) C dX12_isAsked_5 rfl (by decide) rfl ?_
  refine V_aload_n C 1 dX12_isAsked_6 rfl rfl ?_
  refine V_iload_n C 2 dX12_isAsked_7 rfl rfl ?_
  refine V_iconst C dX12_isAsked_8 kc_i_1 ?_
  obtain ⟨a4, e3, h⟩ := bnd_s h
  refine W_callvi C cf_X12_its (c_X12_its e3) q_ML_X12_51 (ws_X12 sk_172) rfl dX12_isAsked_9 (by decide) rfl rfl (Nat.le_of_ble_eq_true rfl) ?_
  refine V_istore_n (lv' := [(3, .int a4), (2, .int a2), (0, .ref (eA ε 172)), (1, .int v1)]) C dX12_isAsked_12 rfl (by decide) rfl ?_
  refine V_iconst C dX12_isAsked_13 kc_i_0 ?_
  refine V_istore (lv' := [(4, .int (0 : Int32)), (3, .int a4), (2, .int a2), (0, .ref (eA ε 172)), (1, .int v1)]) C dX12_isAsked_14 (by decide) rfl ?_
  refine V_sub C [3, 4, 2, 1, 0] rfl ?_
  exact v_X12_isAsked_16 C X N _ _ _ _ _ h
theorem c_X12_isAsked {ε : eT} {N : Nat} {S : St} {v1 : Int32} {res : St} (h : f_X12_isAsked N S v1 = some res) : CI ε yX12_isAsked cX12_isAsked 6 none 3 [.ref (eA ε 172), .int v1] S none res := CI_of (by decide) (Nat.le_of_ble_eq_true rfl) rfl (fun κ C X => v_X12_isAsked_e C X h)
def f_X12_isMended (N : Nat) (S : St) (v1 : Int32) : Option (Int32 × St) :=
 bnd (f_X12_owner S v1) (fun a2 =>
 bnd (f_X12_valueTo S a2 v1) (fun a4 =>
 bnd (f_X12_its S v1 (2 : Int32)) (fun a6 =>
 (if a6 = (100 : Int32) then
 some ((0 : Int32), S)
 else
 bnd (f_X12_who S a2 (1 : Int32)) (fun a9 =>
 (if (S.1 173 14) ≤ a9 then
 bnd (f_X12_hasText S (1 : Int32)) (fun a12 =>
 (if a12 = 0 then
 (if (a4 / (10 : Int32)) < (S.1 173 14) then
 some ((0 : Int32), S)
 else
 some ((1 : Int32), S))
 else
 bnd (f_X12_its (pt S 178 118 a4) v1 (2 : Int32)) (fun a15 =>
 bnd (f_X12_who (pt (pt (pt S 178 118 a4) 178 115 a15) 178 99 (S.1 173 14)) a2 (1 : Int32)) (fun a17 =>
 bnd2 (f_X12_worked N (pt (pt (pt (pt (pt S 178 118 a4) 178 115 a15) 178 99 (S.1 173 14)) 178 117 a17) 178 114 ((pt (pt (pt (pt S 178 118 a4) 178 115 a15) 178 99 (S.1 173 14)) 178 117 a17).1 173 10)) (1 : Int32)) (fun a19 S20 =>
 (if a19 = 0 then
 some ((0 : Int32), S20)
 else
 some ((1 : Int32), S20)))))))
 else
 some ((0 : Int32), S)))))))
set_option maxRecDepth 20000 in
theorem v_X12_isMended_e {ε : eT} {κ : kT} {N : Nat} (C : Act ε κ cX12_isMended 5 RX12 3) {S : St} {res : (Int32 × St)} (X : RI ε κ (some .boolean) (some (.int res.1)) res.2) {v1 : Int32} (h : f_X12_isMended N S v1 = some res) : V ε κ 5 0 [(0, .ref (eA ε 172)), (1, .int v1)] [] (wsOf ε S) 0 0 := by
  unfold f_X12_isMended at h
  refine V_aload_n C 0 dX12_isMended_0 rfl rfl ?_
  refine V_iload_n C 1 dX12_isMended_1 rfl rfl ?_
  obtain ⟨a2, e1, h⟩ := bnd_s h
  refine W_callvi C cf_X12_owner (c_X12_owner e1) q_ML_X12_67 (ws_X12 sk_172) rfl dX12_isMended_2 (by decide) rfl rfl (Nat.le_of_ble_eq_true rfl) ?_
  refine V_istore_n (lv' := [(2, .int a2), (0, .ref (eA ε 172)), (1, .int v1)]) C dX12_isMended_5 rfl (by decide) rfl ?_
  refine V_aload_n C 1 dX12_isMended_6 rfl rfl ?_
  refine V_iload_n C 0 dX12_isMended_7 rfl rfl ?_
  refine V_iload_n C 2 dX12_isMended_8 rfl rfl ?_
  obtain ⟨a4, e3, h⟩ := bnd_s h
  refine W_callvi C cf_X12_valueTo (c_X12_valueTo e3) q_ML_X12_73 (ws_X12 sk_172) rfl dX12_isMended_9 (by decide) rfl rfl (Nat.le_of_ble_eq_true rfl) ?_
  refine V_istore_n (lv' := [(3, .int a4), (2, .int a2), (0, .ref (eA ε 172)), (1, .int v1)]) C dX12_isMended_12 rfl (by decide) rfl ?_
  refine V_aload_n C 2 dX12_isMended_13 rfl rfl ?_
  refine G_X12_s (q := 172) C sk_172 q_FL_X12_7 dX12_isMended_14 ?_
  refine V_bipush C dX12_isMended_17 kc_b_14 ?_
  refine W_ialdc (q := 173) C sk_173 (j := 14) tn_14 (by decide) dX12_isMended_19 ?_
  refine V_istore (lv' := [(4, .int (S.1 173 14)), (3, .int a4), (2, .int a2), (0, .ref (eA ε 172)), (1, .int v1)]) C dX12_isMended_20 (by decide) rfl ?_
  refine V_aload_n C 3 dX12_isMended_22 rfl rfl ?_
  refine V_iload_n C 4 dX12_isMended_23 rfl rfl ?_
  refine V_iconst C dX12_isMended_24 kc_i_2 ?_
  obtain ⟨a6, e5, h⟩ := bnd_s h
  refine W_callvi C cf_X12_its (c_X12_its e5) q_ML_X12_51 (ws_X12 sk_172) rfl dX12_isMended_25 (by decide) rfl rfl (Nat.le_of_ble_eq_true rfl) ?_
  refine V_bipush C dX12_isMended_28 kc_b_100 ?_
  refine V_icmp_eq C dX12_isMended_30 rfl (fun c7 => ?_) (fun c7 => ?_)
  · replace h := ifp c7 h
    refine V_iconst C dX12_isMended_44 kc_i_0 ?_
    exact V_zret C nb_0 X dX12_isMended_45 ⟨ri_1 h, ri_2 h⟩
  · replace h := ifn c7 h
    refine V_aload_n C 3 dX12_isMended_33 rfl rfl ?_
    refine V_iload_n C 2 dX12_isMended_34 rfl rfl ?_
    refine V_iconst C dX12_isMended_35 kc_i_1 ?_
    obtain ⟨a9, e8, h⟩ := bnd_s h
    refine W_callvi C cf_X12_who (c_X12_who e8) q_ML_X12_79 (ws_X12 sk_172) rfl dX12_isMended_36 (by decide) rfl rfl (Nat.le_of_ble_eq_true rfl) ?_
    refine V_iload C 0 dX12_isMended_39 rfl ?_
    refine V_icmp_ge C dX12_isMended_41 rfl (fun c10 => ?_) (fun c10 => ?_)
    · replace h := ifp c10 h
      refine V_aload_n C 3 dX12_isMended_46 rfl rfl ?_
      refine V_iconst C dX12_isMended_47 kc_i_1 ?_
      obtain ⟨a12, e11, h⟩ := bnd_s h
      refine W_callvi C cf_X12_hasText (c_X12_hasText e11) q_ML_X12_152 (ws_X12 sk_172) rfl dX12_isMended_48 (by decide) rfl rfl (Nat.le_of_ble_eq_true rfl) ?_
      refine V_if_ne C dX12_isMended_51 rfl (fun c13 => ?_) (fun c13 => ?_)
      · replace h := ifn c13 h
        refine V_aload_n C 3 dX12_isMended_69 rfl rfl ?_
        refine G_X12_named (q := 172) C sk_172 q_FL_X12_25 dX12_isMended_70 ?_
        refine V_bipush C dX12_isMended_73 kc_b_118 ?_
        refine V_iload_n C 1 dX12_isMended_75 rfl rfl ?_
        refine W_iastc (q := 178) C sk_178 (j := 118) tn_118 (by decide) dX12_isMended_76 ?_
        refine V_aload_n C 3 dX12_isMended_77 rfl rfl ?_
        refine G_X12_named (q := 172) C sk_172 q_FL_X12_25 dX12_isMended_78 ?_
        refine V_bipush C dX12_isMended_81 kc_b_115 ?_
        refine V_aload_n C 3 dX12_isMended_83 rfl rfl ?_
        refine V_iload_n C 4 dX12_isMended_84 rfl rfl ?_
        refine V_iconst C dX12_isMended_85 kc_i_2 ?_
        obtain ⟨a15, e14, h⟩ := bnd_s h
        refine W_callvi C cf_X12_its (c_X12_its e14) q_ML_X12_51 (ws_X12 sk_172) rfl dX12_isMended_86 (by decide) rfl rfl (Nat.le_of_ble_eq_true rfl) ?_
        refine W_iastc (q := 178) C sk_178 (j := 115) tn_115 (by decide) dX12_isMended_89 ?_
        refine V_aload_n C 3 dX12_isMended_90 rfl rfl ?_
        refine G_X12_named (q := 172) C sk_172 q_FL_X12_25 dX12_isMended_91 ?_
        refine V_bipush C dX12_isMended_94 kc_b_99 ?_
        refine V_iload C 0 dX12_isMended_96 rfl ?_
        refine W_iastc (q := 178) C sk_178 (j := 99) tn_99 (by decide) dX12_isMended_98 ?_
        refine V_aload_n C 3 dX12_isMended_99 rfl rfl ?_
        refine G_X12_named (q := 172) C sk_172 q_FL_X12_25 dX12_isMended_100 ?_
        refine V_bipush C dX12_isMended_103 kc_b_117 ?_
        refine V_aload_n C 3 dX12_isMended_105 rfl rfl ?_
        refine V_iload_n C 2 dX12_isMended_106 rfl rfl ?_
        refine V_iconst C dX12_isMended_107 kc_i_1 ?_
        obtain ⟨a17, e16, h⟩ := bnd_s h
        refine W_callvi C cf_X12_who (c_X12_who e16) q_ML_X12_79 (ws_X12 sk_172) rfl dX12_isMended_108 (by decide) rfl rfl (Nat.le_of_ble_eq_true rfl) ?_
        refine W_iastc (q := 178) C sk_178 (j := 117) tn_117 (by decide) dX12_isMended_111 ?_
        refine V_aload_n C 3 dX12_isMended_112 rfl rfl ?_
        refine G_X12_named (q := 172) C sk_172 q_FL_X12_25 dX12_isMended_113 ?_
        refine V_bipush C dX12_isMended_116 kc_b_114 ?_
        refine V_aload_n C 3 dX12_isMended_118 rfl rfl ?_
        refine G_X12_s (q := 172) C sk_172 q_FL_X12_7 dX12_isMended_119 ?_
        refine V_bipush C dX12_isMended_122 kc_b_10 ?_
        refine W_ialdc (q := 173) C sk_173 (j := 10) tn_10 (by decide) dX12_isMended_124 ?_
        refine W_iastc (q := 178) C sk_178 (j := 114) tn_114 (by decide) dX12_isMended_125 ?_
        refine V_aload_n C 3 dX12_isMended_126 rfl rfl ?_
        refine V_iconst C dX12_isMended_127 kc_i_1 ?_
        obtain ⟨a19, S20, e18, h⟩ := bnd2_s h
        refine W_callvi C cf_X12_worked (c_X12_worked e18) q_ML_X12_162 (ws_X12 sk_172) rfl dX12_isMended_128 (by decide) rfl rfl (Nat.le_of_ble_eq_true rfl) ?_
        refine V_if_eq C dX12_isMended_131 rfl (fun c21 => ?_) (fun c21 => ?_)
        · replace h := ifp c21 h
          refine V_iconst C dX12_isMended_138 kc_i_0 ?_
          exact V_zret C nb_0 X dX12_isMended_139 ⟨ri_1 h, ri_2 h⟩
        · replace h := ifn c21 h
          refine V_iconst C dX12_isMended_134 kc_i_1 ?_
          refine V_goto C dX12_isMended_135 rfl ?_
          exact V_zret C nb_1 X dX12_isMended_139 ⟨ri_1 h, ri_2 h⟩
      · replace h := ifp c13 h
        refine V_iload_n C 1 dX12_isMended_54 rfl rfl ?_
        refine V_bipush C dX12_isMended_55 kc_b_10 ?_
        refine V_idiv C dX12_isMended_57 (by decide) ?_
        refine V_iload C 0 dX12_isMended_58 rfl ?_
        refine V_icmp_lt C dX12_isMended_60 rfl (fun c22 => ?_) (fun c22 => ?_)
        · replace h := ifp c22 h
          refine V_iconst C dX12_isMended_67 kc_i_0 ?_
          exact V_zret C nb_0 X dX12_isMended_68 ⟨ri_1 h, ri_2 h⟩
        · replace h := ifn c22 h
          refine V_iconst C dX12_isMended_63 kc_i_1 ?_
          refine V_goto C dX12_isMended_64 rfl ?_
          exact V_zret C nb_1 X dX12_isMended_68 ⟨ri_1 h, ri_2 h⟩
    · replace h := ifn c10 h
      refine V_iconst C dX12_isMended_44 kc_i_0 ?_
      exact V_zret C nb_0 X dX12_isMended_45 ⟨ri_1 h, ri_2 h⟩
theorem c_X12_isMended {ε : eT} {N : Nat} {S : St} {v1 : Int32} {res : (Int32 × St)} (h : f_X12_isMended N S v1 = some res) : CI ε yX12_isMended cX12_isMended 5 (some .boolean) 3 [.ref (eA ε 172), .int v1] S (some (.int res.1)) res.2 := CI_of (by decide) (Nat.le_of_ble_eq_true rfl) rfl (fun κ C X => v_X12_isMended_e C X h)
def f_X12_mends_69 (N : Nat) (S : St) (s0 : Int32) (s1 : Int32) : Option St :=
 (if inb s1 516 = true then
 some (pt S 173 s1.toNatClampNeg s0)
 else none)
set_option maxRecDepth 20000 in
theorem v_X12_mends_69 {ε : eT} {κ : kT} {N : Nat} (C : Act ε κ cX12_mends 3 RX12 4) {S : St} {res : St} (X : RI ε κ none none res) {s0 : Int32} {s1 : Int32} (h : f_X12_mends_69 N S s0 s1 = some res) : V ε κ 3 69 [] [.int s0, .int s1, .ref (eA ε 173)] (wsOf ε S) 0 0 := by
  unfold f_X12_mends_69 at h
  obtain ⟨g1, h⟩ := gdt h
  refine W_iast (q := 173) C sk_173 g1 dX12_mends_69 ?_
  exact V_vret C X dX12_mends_70 ⟨rfl, rv_2 h⟩
def f_X12_mends (N : Nat) (S : St) (v1 : Int32) : Option St :=
 bnd2 (f_X12_isMended N S v1) (fun a2 S3 =>
 (if a2 = 0 then
 some S3
 else
 bnd (f_X12_owner S3 v1) (fun a6 =>
 (if inb (((20 : Int32) + ((4 : Int32) * a6)) + (1 : Int32)) 516 = true then
 (if inb (((20 : Int32) + ((4 : Int32) * a6)) + (1 : Int32)) 516 = true then
 bnd (f_X12_its (pt S3 173 (((20 : Int32) + ((4 : Int32) * a6)) + (1 : Int32)).toNatClampNeg ((S3.1 173 (((20 : Int32) + ((4 : Int32) * a6)) + (1 : Int32)).toNatClampNeg) - (S3.1 173 14))) v1 (2 : Int32)) (fun a10 =>
 (if (a10 + (10 : Int32)) ≤ (100 : Int32) then
 f_X12_mends_69 N (pt S3 173 (((20 : Int32) + ((4 : Int32) * a6)) + (1 : Int32)).toNatClampNeg ((S3.1 173 (((20 : Int32) + ((4 : Int32) * a6)) + (1 : Int32)).toNatClampNeg) - (S3.1 173 14))) (a10 + (10 : Int32)) (((44 : Int32) + ((4 : Int32) * v1)) + (2 : Int32))
 else
 f_X12_mends_69 N (pt S3 173 (((20 : Int32) + ((4 : Int32) * a6)) + (1 : Int32)).toNatClampNeg ((S3.1 173 (((20 : Int32) + ((4 : Int32) * a6)) + (1 : Int32)).toNatClampNeg) - (S3.1 173 14))) (100 : Int32) (((44 : Int32) + ((4 : Int32) * v1)) + (2 : Int32))))
 else none)
 else none))))
set_option maxRecDepth 20000 in
theorem v_X12_mends_e {ε : eT} {κ : kT} {N : Nat} (C : Act ε κ cX12_mends 3 RX12 4) {S : St} {res : St} (X : RI ε κ none none res) {v1 : Int32} (h : f_X12_mends N S v1 = some res) : V ε κ 3 0 [(0, .ref (eA ε 172)), (1, .int v1)] [] (wsOf ε S) 0 0 := by
  unfold f_X12_mends at h
  refine V_aload_n C 0 dX12_mends_0 rfl rfl ?_
  refine V_iload_n C 1 dX12_mends_1 rfl rfl ?_
  obtain ⟨a2, S3, e1, h⟩ := bnd2_s h
  refine W_callvi C cf_X12_isMended (c_X12_isMended e1) q_ML_X12_177 (ws_X12 sk_172) rfl dX12_mends_2 (by decide) rfl rfl (Nat.le_of_ble_eq_true rfl) ?_
  refine V_if_eq C dX12_mends_5 rfl (fun c4 => ?_) (fun c4 => ?_)
  · replace h := ifp c4 h
    exact V_vret C X dX12_mends_70 ⟨rfl, rv_2 h⟩
  · replace h := ifn c4 h
    refine V_aload_n C 0 dX12_mends_8 rfl rfl ?_
    refine G_X12_s (q := 172) C sk_172 q_FL_X12_7 dX12_mends_9 ?_
    refine V_bipush C dX12_mends_12 kc_b_20 ?_
    refine V_iconst C dX12_mends_14 kc_i_4 ?_
    refine V_aload_n C 0 dX12_mends_15 rfl rfl ?_
    refine V_iload_n C 1 dX12_mends_16 rfl rfl ?_
    obtain ⟨a6, e5, h⟩ := bnd_s h
    refine W_callvi C cf_X12_owner (c_X12_owner e5) q_ML_X12_67 (ws_X12 sk_172) rfl dX12_mends_17 (by decide) rfl rfl (Nat.le_of_ble_eq_true rfl) ?_
    refine V_imul C dX12_mends_20 ?_
    refine V_iadd C dX12_mends_21 ?_
    refine V_iconst C dX12_mends_22 kc_i_1 ?_
    refine V_iadd C dX12_mends_23 ?_
    refine V_dup2 C dX12_mends_24 rfl rfl ?_
    obtain ⟨g7, h⟩ := gdt h
    refine W_iald (q := 173) C sk_173 g7 dX12_mends_25 ?_
    refine V_aload_n C 0 dX12_mends_26 rfl rfl ?_
    refine G_X12_s (q := 172) C sk_172 q_FL_X12_7 dX12_mends_27 ?_
    refine V_bipush C dX12_mends_30 kc_b_14 ?_
    refine W_ialdc (q := 173) C sk_173 (j := 14) tn_14 (by decide) dX12_mends_32 ?_
    refine V_isub C dX12_mends_33 ?_
    obtain ⟨g8, h⟩ := gdt h
    refine W_iast (q := 173) C sk_173 g8 dX12_mends_34 ?_
    refine V_aload_n C 0 dX12_mends_35 rfl rfl ?_
    refine V_iload_n C 1 dX12_mends_36 rfl rfl ?_
    refine V_iconst C dX12_mends_37 kc_i_2 ?_
    obtain ⟨a10, e9, h⟩ := bnd_s h
    refine W_callvi C cf_X12_its (c_X12_its e9) q_ML_X12_51 (ws_X12 sk_172) rfl dX12_mends_38 (by decide) rfl rfl (Nat.le_of_ble_eq_true rfl) ?_
    refine V_bipush C dX12_mends_41 kc_b_10 ?_
    refine V_iadd C dX12_mends_43 ?_
    refine V_istore_n (lv' := [(2, .int (a10 + (10 : Int32))), (0, .ref (eA ε 172)), (1, .int v1)]) C dX12_mends_44 rfl (by decide) rfl ?_
    refine V_aload_n C 1 dX12_mends_45 rfl rfl ?_
    refine G_X12_s (q := 172) C sk_172 q_FL_X12_7 dX12_mends_46 ?_
    refine V_bipush C dX12_mends_49 kc_b_44 ?_
    refine V_iconst C dX12_mends_51 kc_i_4 ?_
    refine V_iload_n C 2 dX12_mends_52 rfl rfl ?_
    refine V_imul C dX12_mends_53 ?_
    refine V_iadd C dX12_mends_54 ?_
    refine V_iconst C dX12_mends_55 kc_i_2 ?_
    refine V_iadd C dX12_mends_56 ?_
    refine V_iload_n C 0 dX12_mends_57 rfl rfl ?_
    refine V_bipush C dX12_mends_58 kc_b_100 ?_
    refine V_icmp_le C dX12_mends_60 rfl (fun c11 => ?_) (fun c11 => ?_)
    · replace h := ifp c11 h
      refine V_iload_n C 0 dX12_mends_68 rfl rfl ?_
      refine V_sub C [] rfl ?_
      exact v_X12_mends_69 C X h
    · replace h := ifn c11 h
      refine V_bipush C dX12_mends_63 kc_b_100 ?_
      refine V_goto C dX12_mends_65 rfl ?_
      refine V_sub C [] rfl ?_
      exact v_X12_mends_69 C X h
theorem c_X12_mends {ε : eT} {N : Nat} {S : St} {v1 : Int32} {res : St} (h : f_X12_mends N S v1 = some res) : CI ε yX12_mends cX12_mends 3 none 4 [.ref (eA ε 172), .int v1] S none res := CI_of (by decide) (Nat.le_of_ble_eq_true rfl) rfl (fun κ C X => v_X12_mends_e C X h)
def f_X12_sharesOut_44 (N : Nat) : Nat → St → Int32 → Int32 → Int32 → Option St
  | 0, _, _, _, _ => none
  | n + 1, S, v1, v2, v3 =>
    (if v1 ≤ v3 then
     some (pt S 173 5 ((S.1 173 5) - (v2 * v1)))
     else
     bnd (f_X12_gets S v3 v2) (fun S3 =>
     f_X12_sharesOut_44 N n S3 v1 v2 (v3 + 1)))
set_option maxRecDepth 20000 in
theorem v_X12_sharesOut_44 {ε : eT} {κ : kT} {N : Nat} (C : Act ε κ cX12_sharesOut 4 RX12 2) {res : St} (X : RI ε κ none none res) : ∀ (n : Nat) (S : St) (v1 : Int32) (v2 : Int32) (v3 : Int32) (h : f_X12_sharesOut_44 N n S v1 v2 v3 = some res), V ε κ 4 44 [(0, .ref (eA ε 172)), (1, .int v1), (2, .int v2), (3, .int v3)] [] (wsOf ε S) 0 0 := by
  intro n
  induction n with
  | zero => intro S v1 v2 v3 h; cases h
  | succ n ih =>
    intro S v1 v2 v3 h
    rw [f_X12_sharesOut_44] at h
    refine V_iload_n C 3 dX12_sharesOut_44 rfl rfl ?_
    refine V_iload_n C 1 dX12_sharesOut_45 rfl rfl ?_
    refine V_icmp_ge C dX12_sharesOut_46 rfl (fun c1 => ?_) (fun c1 => ?_)
    · replace h := ifp c1 h
      refine V_aload_n C 0 dX12_sharesOut_61 rfl rfl ?_
      refine G_X12_s (q := 172) C sk_172 q_FL_X12_7 dX12_sharesOut_62 ?_
      refine V_iconst C dX12_sharesOut_65 kc_i_5 ?_
      refine V_dup2 C dX12_sharesOut_66 rfl rfl ?_
      refine W_ialdc (q := 173) C sk_173 (j := 5) tn_5 (by decide) dX12_sharesOut_67 ?_
      refine V_iload_n C 2 dX12_sharesOut_68 rfl rfl ?_
      refine V_iload_n C 1 dX12_sharesOut_69 rfl rfl ?_
      refine V_imul C dX12_sharesOut_70 ?_
      refine V_isub C dX12_sharesOut_71 ?_
      refine W_iastc (q := 173) C sk_173 (j := 5) tn_5 (by decide) dX12_sharesOut_72 ?_
      exact V_vret C X dX12_sharesOut_73 ⟨rfl, rv_2 h⟩
    · replace h := ifn c1 h
      refine V_aload_n C 0 dX12_sharesOut_49 rfl rfl ?_
      refine V_iload_n C 3 dX12_sharesOut_50 rfl rfl ?_
      refine V_iload_n C 2 dX12_sharesOut_51 rfl rfl ?_
      obtain ⟨S3, e2, h⟩ := bnd_s h
      refine W_callvn C cf_X12_gets (c_X12_gets e2) q_ML_X12_185 (ws_X12 sk_172) rfl dX12_sharesOut_52 (by decide) rfl rfl (Nat.le_of_ble_eq_true rfl) ?_
      refine V_iinc (v := (v3 + 1)) (lv' := [(3, .int (v3 + 1)), (0, .ref (eA ε 172)), (1, .int v1), (2, .int v2)]) C 3 dX12_sharesOut_55 rfl (congrArg _ kc_i_1) (by decide) rfl ?_
      refine V_goto C dX12_sharesOut_58 rfl ?_
      refine V_sub C [1, 2, 3, 0] rfl ?_
      exact ih _ _ _ _ h
def f_X12_sharesOut_103 (N : Nat) (K78 : St → Int32 → Int32 → Int32 → Option St) (S : St) (v1 : Int32) (v3 : Int32) (s0 : Int32) : Option St :=
 K78 S v1 s0 (v3 + 1)
set_option maxRecDepth 20000 in
theorem v_X12_sharesOut_103 {ε : eT} {κ : kT} {N : Nat} (C : Act ε κ cX12_sharesOut 4 RX12 2) {S : St} {res : St} (X : RI ε κ none none res) {K78 : St → Int32 → Int32 → Int32 → Option St} (hK78 : ∀ (S : St) (v1 : Int32) (v2 : Int32) (v3 : Int32), K78 S v1 v2 v3 = some res → V ε κ 4 78 [(0, .ref (eA ε 172)), (1, .int v1), (2, .int v2), (3, .int v3)] [] (wsOf ε S) 0 0) {v1 : Int32} {v3 : Int32} {s0 : Int32} (h : f_X12_sharesOut_103 N K78 S v1 v3 s0 = some res) : V ε κ 4 103 [(0, .ref (eA ε 172)), (1, .int v1), (3, .int v3)] [.int s0] (wsOf ε S) 0 0 := by
  unfold f_X12_sharesOut_103 at h
  refine V_istore_n (lv' := [(2, .int s0), (0, .ref (eA ε 172)), (1, .int v1), (3, .int v3)]) C dX12_sharesOut_103 rfl (by decide) rfl ?_
  refine V_iinc (v := (v3 + 1)) (lv' := [(3, .int (v3 + 1)), (2, .int s0), (0, .ref (eA ε 172)), (1, .int v1)]) C 3 dX12_sharesOut_104 rfl (congrArg _ kc_i_1) (by decide) rfl ?_
  refine V_goto C dX12_sharesOut_107 rfl ?_
  refine V_sub C [2, 3, 1, 0] rfl ?_
  exact hK78 _ _ _ _ h
def f_X12_sharesOut_78 (N : Nat) : Nat → St → Int32 → Int32 → Int32 → Option St
  | 0, _, _, _, _ => none
  | n + 1, S, v1, v2, v3 =>
    (if v1 ≤ v3 then
     bnd (f_X12_gets S v2 (S.1 173 5)) (fun S3 =>
     some (pt S3 173 5 (0 : Int32)))
     else
     bnd (f_X12_who S v3 (1 : Int32)) (fun a5 =>
     bnd (f_X12_who S v2 (1 : Int32)) (fun a7 =>
     (if a7 ≤ a5 then
     f_X12_sharesOut_103 N (f_X12_sharesOut_78 N n) S v1 v3 v2
     else
     f_X12_sharesOut_103 N (f_X12_sharesOut_78 N n) S v1 v3 v3))))
set_option maxRecDepth 20000 in
theorem v_X12_sharesOut_78 {ε : eT} {κ : kT} {N : Nat} (C : Act ε κ cX12_sharesOut 4 RX12 2) {res : St} (X : RI ε κ none none res) : ∀ (n : Nat) (S : St) (v1 : Int32) (v2 : Int32) (v3 : Int32) (h : f_X12_sharesOut_78 N n S v1 v2 v3 = some res), V ε κ 4 78 [(0, .ref (eA ε 172)), (1, .int v1), (2, .int v2), (3, .int v3)] [] (wsOf ε S) 0 0 := by
  intro n
  induction n with
  | zero => intro S v1 v2 v3 h; cases h
  | succ n ih =>
    intro S v1 v2 v3 h
    rw [f_X12_sharesOut_78] at h
    refine V_iload_n C 3 dX12_sharesOut_78 rfl rfl ?_
    refine V_iload_n C 1 dX12_sharesOut_79 rfl rfl ?_
    refine V_icmp_ge C dX12_sharesOut_80 rfl (fun c1 => ?_) (fun c1 => ?_)
    · replace h := ifp c1 h
      refine V_aload_n C 0 dX12_sharesOut_110 rfl rfl ?_
      refine V_iload_n C 2 dX12_sharesOut_111 rfl rfl ?_
      refine V_aload_n C 0 dX12_sharesOut_112 rfl rfl ?_
      refine G_X12_s (q := 172) C sk_172 q_FL_X12_7 dX12_sharesOut_113 ?_
      refine V_iconst C dX12_sharesOut_116 kc_i_5 ?_
      refine W_ialdc (q := 173) C sk_173 (j := 5) tn_5 (by decide) dX12_sharesOut_117 ?_
      obtain ⟨S3, e2, h⟩ := bnd_s h
      refine W_callvn C cf_X12_gets (c_X12_gets e2) q_ML_X12_185 (ws_X12 sk_172) rfl dX12_sharesOut_118 (by decide) rfl rfl (Nat.le_of_ble_eq_true rfl) ?_
      refine V_aload_n C 0 dX12_sharesOut_121 rfl rfl ?_
      refine G_X12_s (q := 172) C sk_172 q_FL_X12_7 dX12_sharesOut_122 ?_
      refine V_iconst C dX12_sharesOut_125 kc_i_5 ?_
      refine V_iconst C dX12_sharesOut_126 kc_i_0 ?_
      refine W_iastc (q := 173) C sk_173 (j := 5) tn_5 (by decide) dX12_sharesOut_127 ?_
      exact V_vret C X dX12_sharesOut_128 ⟨rfl, rv_2 h⟩
    · replace h := ifn c1 h
      refine V_aload_n C 0 dX12_sharesOut_83 rfl rfl ?_
      refine V_iload_n C 3 dX12_sharesOut_84 rfl rfl ?_
      refine V_iconst C dX12_sharesOut_85 kc_i_1 ?_
      obtain ⟨a5, e4, h⟩ := bnd_s h
      refine W_callvi C cf_X12_who (c_X12_who e4) q_ML_X12_79 (ws_X12 sk_172) rfl dX12_sharesOut_86 (by decide) rfl rfl (Nat.le_of_ble_eq_true rfl) ?_
      refine V_aload_n C 0 dX12_sharesOut_89 rfl rfl ?_
      refine V_iload_n C 2 dX12_sharesOut_90 rfl rfl ?_
      refine V_iconst C dX12_sharesOut_91 kc_i_1 ?_
      obtain ⟨a7, e6, h⟩ := bnd_s h
      refine W_callvi C cf_X12_who (c_X12_who e6) q_ML_X12_79 (ws_X12 sk_172) rfl dX12_sharesOut_92 (by decide) rfl rfl (Nat.le_of_ble_eq_true rfl) ?_
      refine V_icmp_ge C dX12_sharesOut_95 rfl (fun c8 => ?_) (fun c8 => ?_)
      · replace h := ifp c8 h
        refine V_iload_n C 2 dX12_sharesOut_102 rfl rfl ?_
        refine V_sub C [0, 1, 3] rfl ?_
        exact v_X12_sharesOut_103 C X ih h
      · replace h := ifn c8 h
        refine V_iload_n C 3 dX12_sharesOut_98 rfl rfl ?_
        refine V_goto C dX12_sharesOut_99 rfl ?_
        refine V_sub C [0, 1, 3] rfl ?_
        exact v_X12_sharesOut_103 C X ih h
def f_X12_sharesOut (N : Nat) (S : St) : Option St :=
 (if (S.1 173 12) = 0 then
 some S
 else
 (if (S.1 173 0) = 0 then
 some S
 else
 (if (S.1 173 12) = (1 : Int32) then
 (if (S.1 173 0) = 0 then none else
 f_X12_sharesOut_44 N N S (S.1 173 0) ((S.1 173 5) / (S.1 173 0)) (0 : Int32))
 else
 f_X12_sharesOut_78 N N S (S.1 173 0) (0 : Int32) (1 : Int32))))
set_option maxRecDepth 20000 in
theorem v_X12_sharesOut_e {ε : eT} {κ : kT} {N : Nat} (C : Act ε κ cX12_sharesOut 4 RX12 2) {S : St} {res : St} (X : RI ε κ none none res) (h : f_X12_sharesOut N S = some res) : V ε κ 4 0 [(0, .ref (eA ε 172))] [] (wsOf ε S) 0 0 := by
  unfold f_X12_sharesOut at h
  refine V_aload_n C 0 dX12_sharesOut_0 rfl rfl ?_
  refine G_X12_s (q := 172) C sk_172 q_FL_X12_7 dX12_sharesOut_1 ?_
  refine V_iconst C dX12_sharesOut_4 kc_i_0 ?_
  refine W_ialdc (q := 173) C sk_173 (j := 0) tn_0 (by decide) dX12_sharesOut_5 ?_
  refine V_istore_n (lv' := [(1, .int (S.1 173 0)), (0, .ref (eA ε 172))]) C dX12_sharesOut_6 rfl (by decide) rfl ?_
  refine V_aload_n C 1 dX12_sharesOut_7 rfl rfl ?_
  refine G_X12_s (q := 172) C sk_172 q_FL_X12_7 dX12_sharesOut_8 ?_
  refine V_bipush C dX12_sharesOut_11 kc_b_12 ?_
  refine W_ialdc (q := 173) C sk_173 (j := 12) tn_12 (by decide) dX12_sharesOut_13 ?_
  refine V_if_eq C dX12_sharesOut_14 rfl (fun c1 => ?_) (fun c1 => ?_)
  · replace h := ifp c1 h
    exact V_vret C X dX12_sharesOut_21 ⟨rfl, rv_2 h⟩
  · replace h := ifn c1 h
    refine V_iload_n C 0 dX12_sharesOut_17 rfl rfl ?_
    refine V_if_ne C dX12_sharesOut_18 rfl (fun c2 => ?_) (fun c2 => ?_)
    · replace h := ifn c2 h
      refine V_aload_n C 1 dX12_sharesOut_22 rfl rfl ?_
      refine G_X12_s (q := 172) C sk_172 q_FL_X12_7 dX12_sharesOut_23 ?_
      refine V_bipush C dX12_sharesOut_26 kc_b_12 ?_
      refine W_ialdc (q := 173) C sk_173 (j := 12) tn_12 (by decide) dX12_sharesOut_28 ?_
      refine V_iconst C dX12_sharesOut_29 kc_i_1 ?_
      refine V_icmp_ne C dX12_sharesOut_30 rfl (fun c3 => ?_) (fun c3 => ?_)
      · replace h := ifn c3 h
        refine V_iconst C dX12_sharesOut_74 kc_i_0 ?_
        refine V_istore_n (lv' := [(2, .int (0 : Int32)), (1, .int (S.1 173 0)), (0, .ref (eA ε 172))]) C dX12_sharesOut_75 rfl (by decide) rfl ?_
        refine V_iconst C dX12_sharesOut_76 kc_i_1 ?_
        refine V_istore_n (lv' := [(3, .int (1 : Int32)), (2, .int (0 : Int32)), (1, .int (S.1 173 0)), (0, .ref (eA ε 172))]) C dX12_sharesOut_77 rfl (by decide) rfl ?_
        refine V_sub C [3, 2, 1, 0] rfl ?_
        exact v_X12_sharesOut_78 C X N _ _ _ _ h
      · replace h := ifp c3 h
        refine V_aload_n C 1 dX12_sharesOut_33 rfl rfl ?_
        refine G_X12_s (q := 172) C sk_172 q_FL_X12_7 dX12_sharesOut_34 ?_
        refine V_iconst C dX12_sharesOut_37 kc_i_5 ?_
        refine W_ialdc (q := 173) C sk_173 (j := 5) tn_5 (by decide) dX12_sharesOut_38 ?_
        refine V_iload_n C 0 dX12_sharesOut_39 rfl rfl ?_
        obtain ⟨g4, h⟩ := gdf h
        refine V_idiv C dX12_sharesOut_40 g4 ?_
        refine V_istore_n (lv' := [(2, .int ((S.1 173 5) / (S.1 173 0))), (1, .int (S.1 173 0)), (0, .ref (eA ε 172))]) C dX12_sharesOut_41 rfl (by decide) rfl ?_
        refine V_iconst C dX12_sharesOut_42 kc_i_0 ?_
        refine V_istore_n (lv' := [(3, .int (0 : Int32)), (2, .int ((S.1 173 5) / (S.1 173 0))), (1, .int (S.1 173 0)), (0, .ref (eA ε 172))]) C dX12_sharesOut_43 rfl (by decide) rfl ?_
        refine V_sub C [3, 2, 1, 0] rfl ?_
        exact v_X12_sharesOut_44 C X N _ _ _ _ h
    · replace h := ifp c2 h
      exact V_vret C X dX12_sharesOut_21 ⟨rfl, rv_2 h⟩
theorem c_X12_sharesOut {ε : eT} {N : Nat} {S : St} {res : St} (h : f_X12_sharesOut N S = some res) : CI ε yX12_sharesOut cX12_sharesOut 4 none 2 [.ref (eA ε 172)] S none res := CI_of (by decide) (Nat.le_of_ble_eq_true rfl) rfl (fun κ C X => v_X12_sharesOut_e C X h)
def f_X12_year_85 (N : Nat) (K61 : St → Int32 → Option St) (S : St) (v1 : Int32) : Option St :=
 K61 S (v1 + 1)
set_option maxRecDepth 20000 in
theorem v_X12_year_85 {ε : eT} {κ : kT} {N : Nat} (C : Act ε κ cX12_year 2 RX12 10) {S : St} {res : St} (X : RI ε κ none none res) {K61 : St → Int32 → Option St} (hK61 : ∀ (S : St) (v1 : Int32), K61 S v1 = some res → V ε κ 2 61 [(0, .ref (eA ε 172)), (1, .int v1)] [] (wsOf ε S) 0 0) {v1 : Int32} (h : f_X12_year_85 N K61 S v1 = some res) : V ε κ 2 85 [(0, .ref (eA ε 172)), (1, .int v1)] [] (wsOf ε S) 0 0 := by
  unfold f_X12_year_85 at h
  refine V_iinc (v := (v1 + 1)) (lv' := [(1, .int (v1 + 1)), (0, .ref (eA ε 172))]) C 1 dX12_year_85 rfl (congrArg _ kc_i_1) (by decide) rfl ?_
  refine V_goto C dX12_year_88 rfl ?_
  refine V_sub C [1, 0] rfl ?_
  exact hK61 _ _ h
def f_X12_year_93 (N : Nat) : Nat → St → Int32 → Option St
  | 0, _, _ => none
  | n + 1, S, v1 =>
    (if (S.1 173 1) ≤ v1 then
     bnd (f_X12_sharesOut N S) (fun S3 =>
     some (pt S3 173 3 ((S3.1 173 3) + (1 : Int32))))
     else
     bnd (f_X12_mends N S v1) (fun S5 =>
     f_X12_year_93 N n S5 (v1 + 1)))
set_option maxRecDepth 20000 in
theorem v_X12_year_93 {ε : eT} {κ : kT} {N : Nat} (C : Act ε κ cX12_year 2 RX12 10) {res : St} (X : RI ε κ none none res) : ∀ (n : Nat) (S : St) (v1 : Int32) (h : f_X12_year_93 N n S v1 = some res), V ε κ 2 93 [(0, .ref (eA ε 172)), (1, .int v1)] [] (wsOf ε S) 0 0 := by
  intro n
  induction n with
  | zero => intro S v1 h; cases h
  | succ n ih =>
    intro S v1 h
    rw [f_X12_year_93] at h
    refine V_iload_n C 1 dX12_year_93 rfl rfl ?_
    refine V_aload_n C 0 dX12_year_94 rfl rfl ?_
    refine G_X12_s (q := 172) C sk_172 q_FL_X12_7 dX12_year_95 ?_
    refine V_iconst C dX12_year_98 kc_i_1 ?_
    refine W_ialdc (q := 173) C sk_173 (j := 1) tn_1 (by decide) dX12_year_99 ?_
    refine V_icmp_ge C dX12_year_100 rfl (fun c1 => ?_) (fun c1 => ?_)
    · replace h := ifp c1 h
      refine V_aload_n C 0 dX12_year_114 rfl rfl ?_
      obtain ⟨S3, e2, h⟩ := bnd_s h
      refine W_callvn C cf_X12_sharesOut (c_X12_sharesOut e2) q_ML_X12_198 (ws_X12 sk_172) rfl dX12_year_115 (by decide) rfl rfl (Nat.le_of_ble_eq_true rfl) ?_
      refine V_aload_n C 0 dX12_year_118 rfl rfl ?_
      refine G_X12_s (q := 172) C sk_172 q_FL_X12_7 dX12_year_119 ?_
      refine V_iconst C dX12_year_122 kc_i_3 ?_
      refine V_dup2 C dX12_year_123 rfl rfl ?_
      refine W_ialdc (q := 173) C sk_173 (j := 3) tn_3 (by decide) dX12_year_124 ?_
      refine V_iconst C dX12_year_125 kc_i_1 ?_
      refine V_iadd C dX12_year_126 ?_
      refine W_iastc (q := 173) C sk_173 (j := 3) tn_3 (by decide) dX12_year_127 ?_
      exact V_vret C X dX12_year_128 ⟨rfl, rv_2 h⟩
    · replace h := ifn c1 h
      refine V_aload_n C 0 dX12_year_103 rfl rfl ?_
      refine V_iload_n C 1 dX12_year_104 rfl rfl ?_
      obtain ⟨S5, e4, h⟩ := bnd_s h
      refine W_callvn C cf_X12_mends (c_X12_mends e4) q_ML_X12_195 (ws_X12 sk_172) rfl dX12_year_105 (by decide) rfl rfl (Nat.le_of_ble_eq_true rfl) ?_
      refine V_iinc (v := (v1 + 1)) (lv' := [(1, .int (v1 + 1)), (0, .ref (eA ε 172))]) C 1 dX12_year_108 rfl (congrArg _ kc_i_1) (by decide) rfl ?_
      refine V_goto C dX12_year_111 rfl ?_
      refine V_sub C [1, 0] rfl ?_
      exact ih _ _ h
def f_X12_year_61 (N : Nat) : Nat → St → Int32 → Option St
  | 0, _, _ => none
  | n + 1, S, v1 =>
    (if (S.1 173 1) ≤ v1 then
     f_X12_year_93 N N S (0 : Int32)
     else
     bnd (f_X12_its S v1 (3 : Int32)) (fun a3 =>
     (if a3 = 0 then
     bnd (f_X12_isAsked N S v1) (fun S6 =>
     f_X12_year_85 N (f_X12_year_61 N n) S6 v1)
     else
     f_X12_year_85 N (f_X12_year_61 N n) S v1)))
set_option maxRecDepth 20000 in
theorem v_X12_year_61 {ε : eT} {κ : kT} {N : Nat} (C : Act ε κ cX12_year 2 RX12 10) {res : St} (X : RI ε κ none none res) : ∀ (n : Nat) (S : St) (v1 : Int32) (h : f_X12_year_61 N n S v1 = some res), V ε κ 2 61 [(0, .ref (eA ε 172)), (1, .int v1)] [] (wsOf ε S) 0 0 := by
  intro n
  induction n with
  | zero => intro S v1 h; cases h
  | succ n ih =>
    intro S v1 h
    rw [f_X12_year_61] at h
    refine V_iload_n C 1 dX12_year_61 rfl rfl ?_
    refine V_aload_n C 0 dX12_year_62 rfl rfl ?_
    refine G_X12_s (q := 172) C sk_172 q_FL_X12_7 dX12_year_63 ?_
    refine V_iconst C dX12_year_66 kc_i_1 ?_
    refine W_ialdc (q := 173) C sk_173 (j := 1) tn_1 (by decide) dX12_year_67 ?_
    refine V_icmp_ge C dX12_year_68 rfl (fun c1 => ?_) (fun c1 => ?_)
    · replace h := ifp c1 h
      refine V_iconst C dX12_year_91 kc_i_0 ?_
      refine V_istore_n (lv' := [(1, .int (0 : Int32)), (0, .ref (eA ε 172))]) C dX12_year_92 rfl (by decide) rfl ?_
      refine V_sub C [1, 0] rfl ?_
      exact v_X12_year_93 C X N _ _ h
    · replace h := ifn c1 h
      refine V_aload_n C 0 dX12_year_71 rfl rfl ?_
      refine V_iload_n C 1 dX12_year_72 rfl rfl ?_
      refine V_iconst C dX12_year_73 kc_i_3 ?_
      obtain ⟨a3, e2, h⟩ := bnd_s h
      refine W_callvi C cf_X12_its (c_X12_its e2) q_ML_X12_51 (ws_X12 sk_172) rfl dX12_year_74 (by decide) rfl rfl (Nat.le_of_ble_eq_true rfl) ?_
      refine V_if_ne C dX12_year_77 rfl (fun c4 => ?_) (fun c4 => ?_)
      · replace h := ifn c4 h
        exact v_X12_year_85 C X ih h
      · replace h := ifp c4 h
        refine V_aload_n C 0 dX12_year_80 rfl rfl ?_
        refine V_iload_n C 1 dX12_year_81 rfl rfl ?_
        obtain ⟨S6, e5, h⟩ := bnd_s h
        refine W_callvn C cf_X12_isAsked (c_X12_isAsked e5) q_ML_X12_192 (ws_X12 sk_172) rfl dX12_year_82 (by decide) rfl rfl (Nat.le_of_ble_eq_true rfl) ?_
        exact v_X12_year_85 C X ih h
def f_X12_year_38 (N : Nat) : Nat → St → Int32 → Option St
  | 0, _, _ => none
  | n + 1, S, v1 =>
    (if (S.1 173 1) ≤ v1 then
     f_X12_year_61 N N S (0 : Int32)
     else
     bnd (f_X12_pays S v1) (fun S3 =>
     f_X12_year_38 N n S3 (v1 + 1)))
set_option maxRecDepth 20000 in
theorem v_X12_year_38 {ε : eT} {κ : kT} {N : Nat} (C : Act ε κ cX12_year 2 RX12 10) {res : St} (X : RI ε κ none none res) : ∀ (n : Nat) (S : St) (v1 : Int32) (h : f_X12_year_38 N n S v1 = some res), V ε κ 2 38 [(0, .ref (eA ε 172)), (1, .int v1)] [] (wsOf ε S) 0 0 := by
  intro n
  induction n with
  | zero => intro S v1 h; cases h
  | succ n ih =>
    intro S v1 h
    rw [f_X12_year_38] at h
    refine V_iload_n C 1 dX12_year_38 rfl rfl ?_
    refine V_aload_n C 0 dX12_year_39 rfl rfl ?_
    refine G_X12_s (q := 172) C sk_172 q_FL_X12_7 dX12_year_40 ?_
    refine V_iconst C dX12_year_43 kc_i_1 ?_
    refine W_ialdc (q := 173) C sk_173 (j := 1) tn_1 (by decide) dX12_year_44 ?_
    refine V_icmp_ge C dX12_year_45 rfl (fun c1 => ?_) (fun c1 => ?_)
    · replace h := ifp c1 h
      refine V_iconst C dX12_year_59 kc_i_0 ?_
      refine V_istore_n (lv' := [(1, .int (0 : Int32)), (0, .ref (eA ε 172))]) C dX12_year_60 rfl (by decide) rfl ?_
      refine V_sub C [1, 0] rfl ?_
      exact v_X12_year_61 C X N _ _ h
    · replace h := ifn c1 h
      refine V_aload_n C 0 dX12_year_48 rfl rfl ?_
      refine V_iload_n C 1 dX12_year_49 rfl rfl ?_
      obtain ⟨S3, e2, h⟩ := bnd_s h
      refine W_callvn C cf_X12_pays (c_X12_pays e2) q_ML_X12_188 (ws_X12 sk_172) rfl dX12_year_50 (by decide) rfl rfl (Nat.le_of_ble_eq_true rfl) ?_
      refine V_iinc (v := (v1 + 1)) (lv' := [(1, .int (v1 + 1)), (0, .ref (eA ε 172))]) C 1 dX12_year_53 rfl (congrArg _ kc_i_1) (by decide) rfl ?_
      refine V_goto C dX12_year_56 rfl ?_
      refine V_sub C [1, 0] rfl ?_
      exact ih _ _ h
def f_X12_year_2 (N : Nat) : Nat → St → Int32 → Option St
  | 0, _, _ => none
  | n + 1, S, v1 =>
    (if (S.1 173 1) ≤ v1 then
     f_X12_year_38 N N S (0 : Int32)
     else
     bnd2 (f_X12_names N S v1) (fun a3 S4 =>
     (if inb (((44 : Int32) + ((4 : Int32) * v1)) + (1 : Int32)) 516 = true then
     f_X12_year_2 N n (pt S4 173 (((44 : Int32) + ((4 : Int32) * v1)) + (1 : Int32)).toNatClampNeg a3) (v1 + 1)
     else none)))
set_option maxRecDepth 20000 in
theorem v_X12_year_2 {ε : eT} {κ : kT} {N : Nat} (C : Act ε κ cX12_year 2 RX12 10) {res : St} (X : RI ε κ none none res) : ∀ (n : Nat) (S : St) (v1 : Int32) (h : f_X12_year_2 N n S v1 = some res), V ε κ 2 2 [(0, .ref (eA ε 172)), (1, .int v1)] [] (wsOf ε S) 0 0 := by
  intro n
  induction n with
  | zero => intro S v1 h; cases h
  | succ n ih =>
    intro S v1 h
    rw [f_X12_year_2] at h
    refine V_iload_n C 1 dX12_year_2 rfl rfl ?_
    refine V_aload_n C 0 dX12_year_3 rfl rfl ?_
    refine G_X12_s (q := 172) C sk_172 q_FL_X12_7 dX12_year_4 ?_
    refine V_iconst C dX12_year_7 kc_i_1 ?_
    refine W_ialdc (q := 173) C sk_173 (j := 1) tn_1 (by decide) dX12_year_8 ?_
    refine V_icmp_ge C dX12_year_9 rfl (fun c1 => ?_) (fun c1 => ?_)
    · replace h := ifp c1 h
      refine V_iconst C dX12_year_36 kc_i_0 ?_
      refine V_istore_n (lv' := [(1, .int (0 : Int32)), (0, .ref (eA ε 172))]) C dX12_year_37 rfl (by decide) rfl ?_
      refine V_sub C [1, 0] rfl ?_
      exact v_X12_year_38 C X N _ _ h
    · replace h := ifn c1 h
      refine V_aload_n C 0 dX12_year_12 rfl rfl ?_
      refine G_X12_s (q := 172) C sk_172 q_FL_X12_7 dX12_year_13 ?_
      refine V_bipush C dX12_year_16 kc_b_44 ?_
      refine V_iconst C dX12_year_18 kc_i_4 ?_
      refine V_iload_n C 1 dX12_year_19 rfl rfl ?_
      refine V_imul C dX12_year_20 ?_
      refine V_iadd C dX12_year_21 ?_
      refine V_iconst C dX12_year_22 kc_i_1 ?_
      refine V_iadd C dX12_year_23 ?_
      refine V_aload_n C 0 dX12_year_24 rfl rfl ?_
      refine V_iload_n C 1 dX12_year_25 rfl rfl ?_
      obtain ⟨a3, S4, e2, h⟩ := bnd2_s h
      refine W_callvi C cf_X12_names (c_X12_names e2) q_ML_X12_174 (ws_X12 sk_172) rfl dX12_year_26 (by decide) rfl rfl (Nat.le_of_ble_eq_true rfl) ?_
      obtain ⟨g5, h⟩ := gdt h
      refine W_iast (q := 173) C sk_173 g5 dX12_year_29 ?_
      refine V_iinc (v := (v1 + 1)) (lv' := [(1, .int (v1 + 1)), (0, .ref (eA ε 172))]) C 1 dX12_year_30 rfl (congrArg _ kc_i_1) (by decide) rfl ?_
      refine V_goto C dX12_year_33 rfl ?_
      refine V_sub C [1, 0] rfl ?_
      exact ih _ _ h
def f_X12_year (N : Nat) (S : St) : Option St :=
 f_X12_year_2 N N S (0 : Int32)
set_option maxRecDepth 20000 in
theorem v_X12_year_e {ε : eT} {κ : kT} {N : Nat} (C : Act ε κ cX12_year 2 RX12 10) {S : St} {res : St} (X : RI ε κ none none res) (h : f_X12_year N S = some res) : V ε κ 2 0 [(0, .ref (eA ε 172))] [] (wsOf ε S) 0 0 := by
  unfold f_X12_year at h
  refine V_iconst C dX12_year_0 kc_i_0 ?_
  refine V_istore_n (lv' := [(1, .int (0 : Int32)), (0, .ref (eA ε 172))]) C dX12_year_1 rfl (by decide) rfl ?_
  refine V_sub C [1, 0] rfl ?_
  exact v_X12_year_2 C X N _ _ h
theorem c_X12_year {ε : eT} {N : Nat} {S : St} {res : St} (h : f_X12_year N S = some res) : CI ε yX12_year cX12_year 2 none 10 [.ref (eA ε 172)] S none res := CI_of (by decide) (Nat.le_of_ble_eq_true rfl) rfl (fun κ C X => v_X12_year_e C X h)
def f_X12_go_2 (N : Nat) : Nat → St → Int32 → Int32 → Option St
  | 0, _, _, _ => none
  | n + 1, S, v1, v2 =>
    (if v1 ≤ v2 then
     some S
     else
     bnd (f_X12_year N S) (fun S3 =>
     f_X12_go_2 N n S3 v1 (v2 + 1)))
set_option maxRecDepth 20000 in
theorem v_X12_go_2 {ε : eT} {κ : kT} {N : Nat} (C : Act ε κ cX12_go 3 RX12 11) {res : St} (X : RI ε κ none none res) : ∀ (n : Nat) (S : St) (v1 : Int32) (v2 : Int32) (h : f_X12_go_2 N n S v1 v2 = some res), V ε κ 3 2 [(0, .ref (eA ε 172)), (1, .int v1), (2, .int v2)] [] (wsOf ε S) 0 0 := by
  intro n
  induction n with
  | zero => intro S v1 v2 h; cases h
  | succ n ih =>
    intro S v1 v2 h
    rw [f_X12_go_2] at h
    refine V_iload_n C 2 dX12_go_2 rfl rfl ?_
    refine V_iload_n C 1 dX12_go_3 rfl rfl ?_
    refine V_icmp_ge C dX12_go_4 rfl (fun c1 => ?_) (fun c1 => ?_)
    · replace h := ifp c1 h
      exact V_vret C X dX12_go_17 ⟨rfl, rv_2 h⟩
    · replace h := ifn c1 h
      refine V_aload_n C 0 dX12_go_7 rfl rfl ?_
      obtain ⟨S3, e2, h⟩ := bnd_s h
      refine W_callvn C cf_X12_year (c_X12_year e2) q_ML_X12_201 (ws_X12 sk_172) rfl dX12_go_8 (by decide) rfl rfl (Nat.le_of_ble_eq_true rfl) ?_
      refine V_iinc (v := (v2 + 1)) (lv' := [(2, .int (v2 + 1)), (0, .ref (eA ε 172)), (1, .int v1)]) C 2 dX12_go_11 rfl (congrArg _ kc_i_1) (by decide) rfl ?_
      refine V_goto C dX12_go_14 rfl ?_
      refine V_sub C [1, 2, 0] rfl ?_
      exact ih _ _ _ h
def f_X12_go (N : Nat) (S : St) (v1 : Int32) : Option St :=
 f_X12_go_2 N N S v1 (0 : Int32)
set_option maxRecDepth 20000 in
theorem v_X12_go_e {ε : eT} {κ : kT} {N : Nat} (C : Act ε κ cX12_go 3 RX12 11) {S : St} {res : St} (X : RI ε κ none none res) {v1 : Int32} (h : f_X12_go N S v1 = some res) : V ε κ 3 0 [(0, .ref (eA ε 172)), (1, .int v1)] [] (wsOf ε S) 0 0 := by
  unfold f_X12_go at h
  refine V_iconst C dX12_go_0 kc_i_0 ?_
  refine V_istore_n (lv' := [(2, .int (0 : Int32)), (0, .ref (eA ε 172)), (1, .int v1)]) C dX12_go_1 rfl (by decide) rfl ?_
  refine V_sub C [1, 2, 0] rfl ?_
  exact v_X12_go_2 C X N _ _ _ h
theorem c_X12_go {ε : eT} {N : Nat} {S : St} {v1 : Int32} {res : St} (h : f_X12_go N S v1 = some res) : CI ε yX12_go cX12_go 3 none 11 [.ref (eA ε 172), .int v1] S none res := CI_of (by decide) (Nat.le_of_ble_eq_true rfl) rfl (fun κ C X => v_X12_go_e C X h)
def f_X12_pairIts (S : St) (v1 : Int32) (v2 : Int32) : Option Int32 :=
 (if inb (((92 : Int32) + ((3 : Int32) * v1)) + v2) 516 = true then
 some (S.1 173 (((92 : Int32) + ((3 : Int32) * v1)) + v2).toNatClampNeg)
 else none)
set_option maxRecDepth 20000 in
theorem v_X12_pairIts_e {ε : eT} {κ : kT} (C : Act ε κ cX12_pairIts 3 RX12 1) {S : St} {res : Int32} (X : RI ε κ (some .int) (some (.int res)) S) {v1 : Int32} {v2 : Int32} (h : f_X12_pairIts S v1 v2 = some res) : V ε κ 3 0 [(0, .ref (eA ε 172)), (1, .int v1), (2, .int v2)] [] (wsOf ε S) 0 0 := by
  unfold f_X12_pairIts at h
  refine V_aload_n C 0 dX12_pairIts_0 rfl rfl ?_
  refine G_X12_s (q := 172) C sk_172 q_FL_X12_7 dX12_pairIts_1 ?_
  refine V_bipush C dX12_pairIts_4 kc_b_92 ?_
  refine V_iconst C dX12_pairIts_6 kc_i_3 ?_
  refine V_iload_n C 1 dX12_pairIts_7 rfl rfl ?_
  refine V_imul C dX12_pairIts_8 ?_
  refine V_iadd C dX12_pairIts_9 ?_
  refine V_iload_n C 2 dX12_pairIts_10 rfl rfl ?_
  refine V_iadd C dX12_pairIts_11 ?_
  obtain ⟨g1, h⟩ := gdt h
  refine W_iald (q := 173) C sk_173 g1 dX12_pairIts_12 ?_
  exact V_iret C X dX12_pairIts_13 ⟨rip_1 h, rfl⟩
theorem c_X12_pairIts {ε : eT} {S : St} {v1 : Int32} {v2 : Int32} {res : Int32} (h : f_X12_pairIts S v1 v2 = some res) : CI ε yX12_pairIts cX12_pairIts 3 (some .int) 1 [.ref (eA ε 172), .int v1, .int v2] S (some (.int res)) S := CI_of (by decide) (Nat.le_of_ble_eq_true rfl) rfl (fun κ C X => v_X12_pairIts_e C X h)
def f_X12_hasBonus_41 (S : St) (v2 : Int32) (v3 : Int32) (s0 : Int32) : Option Int32 :=
 (if s0 = 0 then
 some (-1 : Int32)
 else
 bnd (f_X12_owner S v2) (fun a3 =>
 bnd (f_X12_owner S v3) (fun a5 =>
 (if a3 = a5 then
 bnd (f_X12_owner S v2) (fun a8 =>
 some a8)
 else
 some (-1 : Int32)))))
set_option maxRecDepth 20000 in
theorem v_X12_hasBonus_41 {ε : eT} {κ : kT} (C : Act ε κ cX12_hasBonus 5 RX12 3) {S : St} {res : Int32} (X : RI ε κ (some .int) (some (.int res)) S) {v2 : Int32} {v3 : Int32} {s0 : Int32} (h : f_X12_hasBonus_41 S v2 v3 s0 = some res) : V ε κ 5 41 [(0, .ref (eA ε 172)), (2, .int v2), (3, .int v3)] [.int s0] (wsOf ε S) 0 0 := by
  unfold f_X12_hasBonus_41 at h
  refine V_istore (lv' := [(4, .int s0), (0, .ref (eA ε 172)), (2, .int v2), (3, .int v3)]) C dX12_hasBonus_41 (by decide) rfl ?_
  refine V_iload C 0 dX12_hasBonus_43 rfl ?_
  refine V_if_eq C dX12_hasBonus_45 rfl (fun c1 => ?_) (fun c1 => ?_)
  · replace h := ifp c1 h
    refine V_iconst C dX12_hasBonus_69 kc_i_m1 ?_
    exact V_iret C X dX12_hasBonus_70 ⟨rip_1 h, rfl⟩
  · replace h := ifn c1 h
    refine V_aload_n C 1 dX12_hasBonus_48 rfl rfl ?_
    refine V_iload_n C 2 dX12_hasBonus_49 rfl rfl ?_
    obtain ⟨a3, e2, h⟩ := bnd_s h
    refine W_callvi C cf_X12_owner (c_X12_owner e2) q_ML_X12_67 (ws_X12 sk_172) rfl dX12_hasBonus_50 (by decide) rfl rfl (Nat.le_of_ble_eq_true rfl) ?_
    refine V_aload_n C 1 dX12_hasBonus_53 rfl rfl ?_
    refine V_iload_n C 3 dX12_hasBonus_54 rfl rfl ?_
    obtain ⟨a5, e4, h⟩ := bnd_s h
    refine W_callvi C cf_X12_owner (c_X12_owner e4) q_ML_X12_67 (ws_X12 sk_172) rfl dX12_hasBonus_55 (by decide) rfl rfl (Nat.le_of_ble_eq_true rfl) ?_
    refine V_icmp_ne C dX12_hasBonus_58 rfl (fun c6 => ?_) (fun c6 => ?_)
    · replace h := ifn c6 h
      refine V_iconst C dX12_hasBonus_69 kc_i_m1 ?_
      exact V_iret C X dX12_hasBonus_70 ⟨rip_1 h, rfl⟩
    · replace h := ifp c6 h
      refine V_aload_n C 1 dX12_hasBonus_61 rfl rfl ?_
      refine V_iload_n C 2 dX12_hasBonus_62 rfl rfl ?_
      obtain ⟨a8, e7, h⟩ := bnd_s h
      refine W_callvi C cf_X12_owner (c_X12_owner e7) q_ML_X12_67 (ws_X12 sk_172) rfl dX12_hasBonus_63 (by decide) rfl rfl (Nat.le_of_ble_eq_true rfl) ?_
      refine V_goto C dX12_hasBonus_66 rfl ?_
      exact V_iret C X dX12_hasBonus_70 ⟨rip_1 h, rfl⟩
def f_X12_hasBonus_40 (S : St) (v2 : Int32) (v3 : Int32) : Option Int32 :=
 f_X12_hasBonus_41 S v2 v3 (0 : Int32)
set_option maxRecDepth 20000 in
theorem v_X12_hasBonus_40 {ε : eT} {κ : kT} (C : Act ε κ cX12_hasBonus 5 RX12 3) {S : St} {res : Int32} (X : RI ε κ (some .int) (some (.int res)) S) {v2 : Int32} {v3 : Int32} (h : f_X12_hasBonus_40 S v2 v3 = some res) : V ε κ 5 40 [(0, .ref (eA ε 172)), (2, .int v2), (3, .int v3)] [] (wsOf ε S) 0 0 := by
  unfold f_X12_hasBonus_40 at h
  refine V_iconst C dX12_hasBonus_40 kc_i_0 ?_
  exact v_X12_hasBonus_41 C X h
def f_X12_hasBonus (S : St) (v1 : Int32) : Option Int32 :=
 bnd (f_X12_pairIts S v1 (0 : Int32)) (fun a2 =>
 bnd (f_X12_pairIts S v1 (1 : Int32)) (fun a4 =>
 bnd (f_X12_its S a2 (2 : Int32)) (fun a6 =>
 (if a6 < (50 : Int32) then
 f_X12_hasBonus_40 S a2 a4
 else
 bnd (f_X12_its S a4 (2 : Int32)) (fun a9 =>
 (if a9 < (50 : Int32) then
 f_X12_hasBonus_40 S a2 a4
 else
 f_X12_hasBonus_41 S a2 a4 (1 : Int32)))))))
set_option maxRecDepth 20000 in
theorem v_X12_hasBonus_e {ε : eT} {κ : kT} (C : Act ε κ cX12_hasBonus 5 RX12 3) {S : St} {res : Int32} (X : RI ε κ (some .int) (some (.int res)) S) {v1 : Int32} (h : f_X12_hasBonus S v1 = some res) : V ε κ 5 0 [(0, .ref (eA ε 172)), (1, .int v1)] [] (wsOf ε S) 0 0 := by
  unfold f_X12_hasBonus at h
  refine V_aload_n C 0 dX12_hasBonus_0 rfl rfl ?_
  refine V_iload_n C 1 dX12_hasBonus_1 rfl rfl ?_
  refine V_iconst C dX12_hasBonus_2 kc_i_0 ?_
  obtain ⟨a2, e1, h⟩ := bnd_s h
  refine W_callvi C cf_X12_pairIts (c_X12_pairIts e1) q_ML_X12_64 (ws_X12 sk_172) rfl dX12_hasBonus_3 (by decide) rfl rfl (Nat.le_of_ble_eq_true rfl) ?_
  refine V_istore_n (lv' := [(2, .int a2), (0, .ref (eA ε 172)), (1, .int v1)]) C dX12_hasBonus_6 rfl (by decide) rfl ?_
  refine V_aload_n C 1 dX12_hasBonus_7 rfl rfl ?_
  refine V_iload_n C 2 dX12_hasBonus_8 rfl rfl ?_
  refine V_iconst C dX12_hasBonus_9 kc_i_1 ?_
  obtain ⟨a4, e3, h⟩ := bnd_s h
  refine W_callvi C cf_X12_pairIts (c_X12_pairIts e3) q_ML_X12_64 (ws_X12 sk_172) rfl dX12_hasBonus_10 (by decide) rfl rfl (Nat.le_of_ble_eq_true rfl) ?_
  refine V_istore_n (lv' := [(3, .int a4), (2, .int a2), (0, .ref (eA ε 172)), (1, .int v1)]) C dX12_hasBonus_13 rfl (by decide) rfl ?_
  refine V_aload_n C 2 dX12_hasBonus_14 rfl rfl ?_
  refine V_iload_n C 1 dX12_hasBonus_15 rfl rfl ?_
  refine V_iconst C dX12_hasBonus_16 kc_i_2 ?_
  obtain ⟨a6, e5, h⟩ := bnd_s h
  refine W_callvi C cf_X12_its (c_X12_its e5) q_ML_X12_51 (ws_X12 sk_172) rfl dX12_hasBonus_17 (by decide) rfl rfl (Nat.le_of_ble_eq_true rfl) ?_
  refine V_bipush C dX12_hasBonus_20 kc_b_50 ?_
  refine V_icmp_lt C dX12_hasBonus_22 rfl (fun c7 => ?_) (fun c7 => ?_)
  · replace h := ifp c7 h
    refine V_sub C [2, 1, 0] rfl ?_
    exact v_X12_hasBonus_40 C X h
  · replace h := ifn c7 h
    refine V_aload_n C 2 dX12_hasBonus_25 rfl rfl ?_
    refine V_iload_n C 0 dX12_hasBonus_26 rfl rfl ?_
    refine V_iconst C dX12_hasBonus_27 kc_i_2 ?_
    obtain ⟨a9, e8, h⟩ := bnd_s h
    refine W_callvi C cf_X12_its (c_X12_its e8) q_ML_X12_51 (ws_X12 sk_172) rfl dX12_hasBonus_28 (by decide) rfl rfl (Nat.le_of_ble_eq_true rfl) ?_
    refine V_bipush C dX12_hasBonus_31 kc_b_50 ?_
    refine V_icmp_lt C dX12_hasBonus_33 rfl (fun c10 => ?_) (fun c10 => ?_)
    · replace h := ifp c10 h
      refine V_sub C [2, 1, 0] rfl ?_
      exact v_X12_hasBonus_40 C X h
    · replace h := ifn c10 h
      refine V_iconst C dX12_hasBonus_36 kc_i_1 ?_
      refine V_goto C dX12_hasBonus_37 rfl ?_
      refine V_sub C [2, 1, 0] rfl ?_
      exact v_X12_hasBonus_41 C X h
theorem c_X12_hasBonus {ε : eT} {S : St} {v1 : Int32} {res : Int32} (h : f_X12_hasBonus S v1 = some res) : CI ε yX12_hasBonus cX12_hasBonus 5 (some .int) 3 [.ref (eA ε 172), .int v1] S (some (.int res)) S := CI_of (by decide) (Nat.le_of_ble_eq_true rfl) rfl (fun κ C X => v_X12_hasBonus_e C X h)
def f_X12_hasOne (S : St) (v1 : Int32) (v2 : Int32) (v3 : Int32) : Option Int32 :=
 bnd (f_X12_pairIts S v2 v3) (fun a2 =>
 bnd (f_X12_owner S a2) (fun a4 =>
 (if a4 = v1 then
 some (1 : Int32)
 else
 some (0 : Int32))))
set_option maxRecDepth 20000 in
theorem v_X12_hasOne_e {ε : eT} {κ : kT} (C : Act ε κ cX12_hasOne 4 RX12 3) {S : St} {res : Int32} (X : RI ε κ (some .boolean) (some (.int res)) S) {v1 : Int32} {v2 : Int32} {v3 : Int32} (h : f_X12_hasOne S v1 v2 v3 = some res) : V ε κ 4 0 [(0, .ref (eA ε 172)), (1, .int v1), (2, .int v2), (3, .int v3)] [] (wsOf ε S) 0 0 := by
  unfold f_X12_hasOne at h
  refine V_aload_n C 0 dX12_hasOne_0 rfl rfl ?_
  refine V_aload_n C 0 dX12_hasOne_1 rfl rfl ?_
  refine V_iload_n C 2 dX12_hasOne_2 rfl rfl ?_
  refine V_iload_n C 3 dX12_hasOne_3 rfl rfl ?_
  obtain ⟨a2, e1, h⟩ := bnd_s h
  refine W_callvi C cf_X12_pairIts (c_X12_pairIts e1) q_ML_X12_64 (ws_X12 sk_172) rfl dX12_hasOne_4 (by decide) rfl rfl (Nat.le_of_ble_eq_true rfl) ?_
  obtain ⟨a4, e3, h⟩ := bnd_s h
  refine W_callvi C cf_X12_owner (c_X12_owner e3) q_ML_X12_67 (ws_X12 sk_172) rfl dX12_hasOne_7 (by decide) rfl rfl (Nat.le_of_ble_eq_true rfl) ?_
  refine V_iload_n C 1 dX12_hasOne_10 rfl rfl ?_
  refine V_icmp_ne C dX12_hasOne_11 rfl (fun c5 => ?_) (fun c5 => ?_)
  · replace h := ifn c5 h
    refine V_iconst C dX12_hasOne_18 kc_i_0 ?_
    exact V_zret C nb_0 X dX12_hasOne_19 ⟨rip_1 h, rfl⟩
  · replace h := ifp c5 h
    refine V_iconst C dX12_hasOne_14 kc_i_1 ?_
    refine V_goto C dX12_hasOne_15 rfl ?_
    exact V_zret C nb_1 X dX12_hasOne_19 ⟨rip_1 h, rfl⟩
theorem c_X12_hasOne {ε : eT} {S : St} {v1 : Int32} {v2 : Int32} {v3 : Int32} {res : Int32} (h : f_X12_hasOne S v1 v2 v3 = some res) : CI ε yX12_hasOne cX12_hasOne 4 (some .boolean) 3 [.ref (eA ε 172), .int v1, .int v2, .int v3] S (some (.int res)) S := CI_of (by decide) (Nat.le_of_ble_eq_true rfl) rfl (fun κ C X => v_X12_hasOne_e C X h)
def f_X12_lay_2 (N : Nat) : Nat → St → Nat → Nat → Int32 → Option St
  | 0, _, _, _, _ => none
  | n + 1, S, v0, v1, v2 =>
    (if (516 : Int32) ≤ v2 then
     some S
     else
     (if inb v2 (ln v0) = true then
     (if inb v2 (ln v1) = true then
     f_X12_lay_2 N n (pt S v1 v2.toNatClampNeg (S.1 v0 v2.toNatClampNeg)) v0 v1 (v2 + 1)
     else none)
     else none))
set_option maxRecDepth 20000 in
theorem v_X12_lay_2 {ε : eT} {κ : kT} {N : Nat} (C : Act ε κ cX12_lay 3 RX12 1) {res : St} (X : RI ε κ none none res) : ∀ (n : Nat) (S : St) (v0 : Nat) (v1 : Nat) (v2 : Int32) (h0 : sh v0 = 0) (h1 : sh v1 = 0) (h : f_X12_lay_2 N n S v0 v1 v2 = some res), V ε κ 3 2 [(0, .ref (eA ε v0)), (1, .ref (eA ε v1)), (2, .int v2)] [] (wsOf ε S) 0 0 := by
  intro n
  induction n with
  | zero => intro S v0 v1 v2 h0 h1 h; cases h
  | succ n ih =>
    intro S v0 v1 v2 h0 h1 h
    rw [f_X12_lay_2] at h
    refine V_iload_n C 2 dX12_lay_2 rfl rfl ?_
    refine V_sipush C dX12_lay_3 kc_s_516 ?_
    refine V_icmp_ge C dX12_lay_6 rfl (fun c1 => ?_) (fun c1 => ?_)
    · replace h := ifp c1 h
      exact V_vret C X dX12_lay_21 ⟨rfl, rv_2 h⟩
    · replace h := ifn c1 h
      refine V_aload_n C 1 dX12_lay_9 rfl rfl ?_
      refine V_iload_n C 2 dX12_lay_10 rfl rfl ?_
      refine V_aload_n C 0 dX12_lay_11 rfl rfl ?_
      refine V_iload_n C 2 dX12_lay_12 rfl rfl ?_
      obtain ⟨g2, h⟩ := gdt h
      refine W_iald (q := v0) C h0 g2 dX12_lay_13 ?_
      obtain ⟨g3, h⟩ := gdt h
      refine W_iast (q := v1) C h1 g3 dX12_lay_14 ?_
      refine V_iinc (v := (v2 + 1)) (lv' := [(2, .int (v2 + 1)), (0, .ref (eA ε v0)), (1, .ref (eA ε v1))]) C 2 dX12_lay_15 rfl (congrArg _ kc_i_1) (by decide) rfl ?_
      refine V_goto C dX12_lay_18 rfl ?_
      refine V_sub C [1, 2, 0] rfl ?_
      exact ih _ _ _ _ h0 h1 h
def f_X12_lay (N : Nat) (S : St) (v0 : Nat) (v1 : Nat) : Option St :=
 f_X12_lay_2 N N S v0 v1 (0 : Int32)
set_option maxRecDepth 20000 in
theorem v_X12_lay_e {ε : eT} {κ : kT} {N : Nat} (C : Act ε κ cX12_lay 3 RX12 1) {S : St} {res : St} (X : RI ε κ none none res) {v0 : Nat} {v1 : Nat} (h0 : sh v0 = 0) (h1 : sh v1 = 0) (h : f_X12_lay N S v0 v1 = some res) : V ε κ 3 0 [(0, .ref (eA ε v0)), (1, .ref (eA ε v1))] [] (wsOf ε S) 0 0 := by
  unfold f_X12_lay at h
  refine V_iconst C dX12_lay_0 kc_i_0 ?_
  refine V_istore_n (lv' := [(2, .int (0 : Int32)), (0, .ref (eA ε v0)), (1, .ref (eA ε v1))]) C dX12_lay_1 rfl (by decide) rfl ?_
  refine V_sub C [1, 2, 0] rfl ?_
  exact v_X12_lay_2 C X N _ _ _ _ h0 h1 h
theorem c_X12_lay {ε : eT} {N : Nat} {S : St} {v0 : Nat} {v1 : Nat} {res : St} (h0 : sh v0 = 0) (h1 : sh v1 = 0) (h : f_X12_lay N S v0 v1 = some res) : CI ε yX12_lay cX12_lay 3 none 1 [.ref (eA ε v0), .ref (eA ε v1)] S none res := CI_of (by decide) (Nat.le_of_ble_eq_true rfl) rfl (fun κ C X => v_X12_lay_e C X h0 h1 h)
def f_X12_image (N : Nat) (S : St) : Option (Int32 × St) :=
 bnd (f_X12_lay N S 173 174) (fun S2 =>
 some (((pt S2 172 3 ((S2.1 172 3) + (1 : Int32))).1 172 3), (pt S2 172 3 ((S2.1 172 3) + (1 : Int32)))))
set_option maxRecDepth 20000 in
theorem v_X12_image_e {ε : eT} {κ : kT} {N : Nat} (C : Act ε κ cX12_image 1 RX12 2) {S : St} {res : (Int32 × St)} (X : RI ε κ (some .int) (some (.int res.1)) res.2) (h : f_X12_image N S = some res) : V ε κ 1 0 [(0, .ref (eA ε 172))] [] (wsOf ε S) 0 0 := by
  unfold f_X12_image at h
  refine V_aload_n C 0 dX12_image_0 rfl rfl ?_
  refine G_X12_s (q := 172) C sk_172 q_FL_X12_7 dX12_image_1 ?_
  refine V_aload_n C 0 dX12_image_4 rfl rfl ?_
  refine G_X12_kept (q := 172) C sk_172 q_FL_X12_13 dX12_image_5 ?_
  obtain ⟨S2, e1, h⟩ := bnd_s h
  refine W_callsn C cf_X12_lay (c_X12_lay sk_173 sk_174 e1) q_ML_X12_241 dX12_image_8 (by decide) rfl rfl (Nat.le_of_ble_eq_true rfl) ?_
  refine V_aload_n C 0 dX12_image_11 rfl rfl ?_
  refine V_dup C dX12_image_12 rfl ?_
  refine G_X12_images (q := 172) C sk_172 q_FL_X12_286 dX12_image_13 ?_
  refine V_iconst C dX12_image_16 kc_i_1 ?_
  refine V_iadd C dX12_image_17 ?_
  refine P_X12_images (q := 172) C sk_172 q_FL_X12_286 dX12_image_18 ?_
  refine V_aload_n C 0 dX12_image_21 rfl rfl ?_
  refine G_X12_images (q := 172) C sk_172 q_FL_X12_286 dX12_image_22 ?_
  exact V_iret C X dX12_image_25 ⟨ri_1 h, ri_2 h⟩
theorem c_X12_image {ε : eT} {N : Nat} {S : St} {res : (Int32 × St)} (h : f_X12_image N S = some res) : CI ε yX12_image cX12_image 1 (some .int) 2 [.ref (eA ε 172)] S (some (.int res.1)) res.2 := CI_of (by decide) (Nat.le_of_ble_eq_true rfl) rfl (fun κ C X => v_X12_image_e C X h)
def f_X12_isName_39 (S : St) : Option Int32 :=
 some (1 : Int32)
set_option maxRecDepth 20000 in
theorem v_X12_isName_39 {ε : eT} {κ : kT} (C : Act ε κ cX12_isName 2 RX12 1) {S : St} {res : Int32} (X : RI ε κ (some .boolean) (some (.int res)) S) (h : f_X12_isName_39 S = some res) : V ε κ 2 39 [] [] (wsOf ε S) 0 0 := by
  unfold f_X12_isName_39 at h
  refine V_iconst C dX12_isName_39 kc_i_1 ?_
  refine V_goto C dX12_isName_40 rfl ?_
  exact V_zret C nb_1 X dX12_isName_70 ⟨rip_1 h, rfl⟩
def f_X12_isName_65 (S : St) : Option Int32 :=
 some (1 : Int32)
set_option maxRecDepth 20000 in
theorem v_X12_isName_65 {ε : eT} {κ : kT} (C : Act ε κ cX12_isName 2 RX12 1) {S : St} {res : Int32} (X : RI ε κ (some .boolean) (some (.int res)) S) (h : f_X12_isName_65 S = some res) : V ε κ 2 65 [] [] (wsOf ε S) 0 0 := by
  unfold f_X12_isName_65 at h
  refine V_iconst C dX12_isName_65 kc_i_1 ?_
  refine V_goto C dX12_isName_66 rfl ?_
  exact V_zret C nb_1 X dX12_isName_70 ⟨rip_1 h, rfl⟩
def f_X12_isName (S : St) (v1 : Int32) : Option Int32 :=
 (if v1 = (118 : Int32) then
 some (1 : Int32)
 else
 (if v1 = (114 : Int32) then
 some (1 : Int32)
 else
 (if (S.1 172 8) = 0 then
 (if v1 = (109 : Int32) then
 f_X12_isName_39 S
 else
 (if v1 = (112 : Int32) then
 f_X12_isName_39 S
 else
 (if v1 = (121 : Int32) then
 f_X12_isName_39 S
 else
 some (0 : Int32))))
 else
 (if v1 = (115 : Int32) then
 f_X12_isName_65 S
 else
 (if v1 = (99 : Int32) then
 f_X12_isName_65 S
 else
 (if v1 = (117 : Int32) then
 f_X12_isName_65 S
 else
 some (0 : Int32)))))))
set_option maxRecDepth 20000 in
theorem v_X12_isName_e {ε : eT} {κ : kT} (C : Act ε κ cX12_isName 2 RX12 1) {S : St} {res : Int32} (X : RI ε κ (some .boolean) (some (.int res)) S) {v1 : Int32} (h : f_X12_isName S v1 = some res) : V ε κ 2 0 [(0, .ref (eA ε 172)), (1, .int v1)] [] (wsOf ε S) 0 0 := by
  unfold f_X12_isName at h
  refine V_iload_n C 1 dX12_isName_0 rfl rfl ?_
  refine V_bipush C dX12_isName_1 kc_b_118 ?_
  refine V_icmp_eq C dX12_isName_3 rfl (fun c1 => ?_) (fun c1 => ?_)
  · replace h := ifp c1 h
    refine V_iconst C dX12_isName_12 kc_i_1 ?_
    exact V_zret C nb_1 X dX12_isName_13 ⟨rip_1 h, rfl⟩
  · replace h := ifn c1 h
    refine V_iload_n C 1 dX12_isName_6 rfl rfl ?_
    refine V_bipush C dX12_isName_7 kc_b_114 ?_
    refine V_icmp_ne C dX12_isName_9 rfl (fun c2 => ?_) (fun c2 => ?_)
    · replace h := ifn c2 h
      refine V_aload_n C 0 dX12_isName_14 rfl rfl ?_
      refine G_X12_use (q := 172) C sk_172 q_FL_X12_110 dX12_isName_15 ?_
      refine V_if_ne C dX12_isName_18 rfl (fun c3 => ?_) (fun c3 => ?_)
      · replace h := ifn c3 h
        refine V_iload_n C 1 dX12_isName_47 rfl rfl ?_
        refine V_bipush C dX12_isName_48 kc_b_115 ?_
        refine V_icmp_eq C dX12_isName_50 rfl (fun c4 => ?_) (fun c4 => ?_)
        · replace h := ifp c4 h
          refine V_sub C [] rfl ?_
          exact v_X12_isName_65 C X h
        · replace h := ifn c4 h
          refine V_iload_n C 1 dX12_isName_53 rfl rfl ?_
          refine V_bipush C dX12_isName_54 kc_b_99 ?_
          refine V_icmp_eq C dX12_isName_56 rfl (fun c5 => ?_) (fun c5 => ?_)
          · replace h := ifp c5 h
            refine V_sub C [] rfl ?_
            exact v_X12_isName_65 C X h
          · replace h := ifn c5 h
            refine V_iload_n C 1 dX12_isName_59 rfl rfl ?_
            refine V_bipush C dX12_isName_60 kc_b_117 ?_
            refine V_icmp_ne C dX12_isName_62 rfl (fun c6 => ?_) (fun c6 => ?_)
            · replace h := ifn c6 h
              refine V_iconst C dX12_isName_69 kc_i_0 ?_
              exact V_zret C nb_0 X dX12_isName_70 ⟨rip_1 h, rfl⟩
            · replace h := ifp c6 h
              refine V_sub C [] rfl ?_
              exact v_X12_isName_65 C X h
      · replace h := ifp c3 h
        refine V_iload_n C 1 dX12_isName_21 rfl rfl ?_
        refine V_bipush C dX12_isName_22 kc_b_109 ?_
        refine V_icmp_eq C dX12_isName_24 rfl (fun c7 => ?_) (fun c7 => ?_)
        · replace h := ifp c7 h
          refine V_sub C [] rfl ?_
          exact v_X12_isName_39 C X h
        · replace h := ifn c7 h
          refine V_iload_n C 1 dX12_isName_27 rfl rfl ?_
          refine V_bipush C dX12_isName_28 kc_b_112 ?_
          refine V_icmp_eq C dX12_isName_30 rfl (fun c8 => ?_) (fun c8 => ?_)
          · replace h := ifp c8 h
            refine V_sub C [] rfl ?_
            exact v_X12_isName_39 C X h
          · replace h := ifn c8 h
            refine V_iload_n C 1 dX12_isName_33 rfl rfl ?_
            refine V_bipush C dX12_isName_34 kc_b_121 ?_
            refine V_icmp_ne C dX12_isName_36 rfl (fun c9 => ?_) (fun c9 => ?_)
            · replace h := ifn c9 h
              refine V_iconst C dX12_isName_43 kc_i_0 ?_
              refine V_goto C dX12_isName_44 rfl ?_
              exact V_zret C nb_0 X dX12_isName_70 ⟨rip_1 h, rfl⟩
            · replace h := ifp c9 h
              refine V_sub C [] rfl ?_
              exact v_X12_isName_39 C X h
    · replace h := ifp c2 h
      refine V_iconst C dX12_isName_12 kc_i_1 ?_
      exact V_zret C nb_1 X dX12_isName_13 ⟨rip_1 h, rfl⟩
theorem c_X12_isName {ε : eT} {S : St} {v1 : Int32} {res : Int32} (h : f_X12_isName S v1 = some res) : CI ε yX12_isName cX12_isName 2 (some .boolean) 1 [.ref (eA ε 172), .int v1] S (some (.int res)) S := CI_of (by decide) (Nat.le_of_ble_eq_true rfl) rfl (fun κ C X => v_X12_isName_e C X h)
def f_X12_isPart (S : St) (v0 : Int32) : Option Int32 :=
 (if v0 < 0 then
 some (0 : Int32)
 else
 (if (v0 - v0 / (10 : Int32) * (10 : Int32)) ≤ 0 then
 some (0 : Int32)
 else
 (if (v0 - v0 / (10 : Int32) * (10 : Int32)) < (v0 / (10 : Int32)) then
 some (0 : Int32)
 else
 some (1 : Int32))))
set_option maxRecDepth 20000 in
theorem v_X12_isPart_e {ε : eT} {κ : kT} (C : Act ε κ cX12_isPart 1 RX12 1) {S : St} {res : Int32} (X : RI ε κ (some .boolean) (some (.int res)) S) {v0 : Int32} (h : f_X12_isPart S v0 = some res) : V ε κ 1 0 [(0, .int v0)] [] (wsOf ε S) 0 0 := by
  unfold f_X12_isPart at h
  refine V_iload_n C 0 dX12_isPart_0 rfl rfl ?_
  refine V_if_lt C dX12_isPart_1 rfl (fun c1 => ?_) (fun c1 => ?_)
  · replace h := ifp c1 h
    refine V_iconst C dX12_isPart_26 kc_i_0 ?_
    exact V_zret C nb_0 X dX12_isPart_27 ⟨rip_1 h, rfl⟩
  · replace h := ifn c1 h
    refine V_iload_n C 0 dX12_isPart_4 rfl rfl ?_
    refine V_bipush C dX12_isPart_5 kc_b_10 ?_
    refine V_irem C dX12_isPart_7 (by decide) ?_
    refine V_if_le C dX12_isPart_8 rfl (fun c2 => ?_) (fun c2 => ?_)
    · replace h := ifp c2 h
      refine V_iconst C dX12_isPart_26 kc_i_0 ?_
      exact V_zret C nb_0 X dX12_isPart_27 ⟨rip_1 h, rfl⟩
    · replace h := ifn c2 h
      refine V_iload_n C 0 dX12_isPart_11 rfl rfl ?_
      refine V_bipush C dX12_isPart_12 kc_b_10 ?_
      refine V_idiv C dX12_isPart_14 (by decide) ?_
      refine V_iload_n C 0 dX12_isPart_15 rfl rfl ?_
      refine V_bipush C dX12_isPart_16 kc_b_10 ?_
      refine V_irem C dX12_isPart_18 (by decide) ?_
      refine V_icmp_gt C dX12_isPart_19 rfl (fun c3 => ?_) (fun c3 => ?_)
      · replace h := ifp c3 h
        refine V_iconst C dX12_isPart_26 kc_i_0 ?_
        exact V_zret C nb_0 X dX12_isPart_27 ⟨rip_1 h, rfl⟩
      · replace h := ifn c3 h
        refine V_iconst C dX12_isPart_22 kc_i_1 ?_
        refine V_goto C dX12_isPart_23 rfl ?_
        exact V_zret C nb_1 X dX12_isPart_27 ⟨rip_1 h, rfl⟩
theorem c_X12_isPart {ε : eT} {S : St} {v0 : Int32} {res : Int32} (h : f_X12_isPart S v0 = some res) : CI ε yX12_isPart cX12_isPart 1 (some .boolean) 1 [.int v0] S (some (.int res)) S := CI_of (by decide) (Nat.le_of_ble_eq_true rfl) rfl (fun κ C X => v_X12_isPart_e C X h)
def f_X12_isSheet (S : St) (v0 : Int32) : Option Int32 :=
 bnd (f_X12_in S v0 (0 : Int32) (3 : Int32)) (fun a2 =>
 (if bo a2 = true then some a2 else none))
set_option maxRecDepth 20000 in
theorem v_X12_isSheet_e {ε : eT} {κ : kT} (C : Act ε κ cX12_isSheet 1 RX12 2) {S : St} {res : Int32} (X : RI ε κ (some .boolean) (some (.int res)) S) {v0 : Int32} (h : f_X12_isSheet S v0 = some res) : V ε κ 1 0 [(0, .int v0)] [] (wsOf ε S) 0 0 := by
  unfold f_X12_isSheet at h
  refine V_iload_n C 0 dX12_isSheet_0 rfl rfl ?_
  refine V_iconst C dX12_isSheet_1 kc_i_0 ?_
  refine V_iconst C dX12_isSheet_2 kc_i_3 ?_
  obtain ⟨a2, e1, h⟩ := bnd_s h
  refine W_callsi C cf_X12_in (c_X12_in e1) q_ML_X12_47 dX12_isSheet_3 (by decide) rfl rfl (Nat.le_of_ble_eq_true rfl) ?_
  obtain ⟨g3, h⟩ := gdt h
  exact V_zret C (nb_v g3) X dX12_isSheet_6 ⟨rip_1 h, rfl⟩
theorem c_X12_isSheet {ε : eT} {S : St} {v0 : Int32} {res : Int32} (h : f_X12_isSheet S v0 = some res) : CI ε yX12_isSheet cX12_isSheet 1 (some .boolean) 2 [.int v0] S (some (.int res)) S := CI_of (by decide) (Nat.le_of_ble_eq_true rfl) rfl (fun κ C X => v_X12_isSheet_e C X h)
def f_X12_missing (S : St) (v1 : Int32) : Option (Int32 × St) :=
 (if inb v1 4 = true then
 (if (S.1 181 v1.toNatClampNeg) = 0 then
 bnd2 (f_X12_error S (2 : Int32)) (fun a4 S5 =>
 some (a4, S5))
 else
 some ((0 : Int32), S))
 else none)
set_option maxRecDepth 20000 in
theorem v_X12_missing_e {ε : eT} {κ : kT} (C : Act ε κ cX12_missing 2 RX12 2) {S : St} {res : (Int32 × St)} (X : RI ε κ (some .int) (some (.int res.1)) res.2) {v1 : Int32} (h : f_X12_missing S v1 = some res) : V ε κ 2 0 [(0, .ref (eA ε 172)), (1, .int v1)] [] (wsOf ε S) 0 0 := by
  unfold f_X12_missing at h
  refine V_aload_n C 0 dX12_missing_0 rfl rfl ?_
  refine G_X12_bits (q := 172) C sk_172 q_FL_X12_34 dX12_missing_1 ?_
  refine V_iload_n C 1 dX12_missing_4 rfl rfl ?_
  obtain ⟨g1, h⟩ := gdt h
  refine W_iald (q := 181) C sk_181 g1 dX12_missing_5 ?_
  refine V_if_ne C dX12_missing_6 rfl (fun c2 => ?_) (fun c2 => ?_)
  · replace h := ifn c2 h
    refine V_iconst C dX12_missing_17 kc_i_0 ?_
    exact V_iret C X dX12_missing_18 ⟨ri_1 h, ri_2 h⟩
  · replace h := ifp c2 h
    refine V_aload_n C 0 dX12_missing_9 rfl rfl ?_
    refine V_iconst C dX12_missing_10 kc_i_2 ?_
    obtain ⟨a4, S5, e3, h⟩ := bnd2_s h
    refine W_callvi C cf_X12_error (c_X12_error e3) q_ML_X12_60 (ws_X12 sk_172) rfl dX12_missing_11 (by decide) rfl rfl (Nat.le_of_ble_eq_true rfl) ?_
    refine V_goto C dX12_missing_14 rfl ?_
    exact V_iret C X dX12_missing_18 ⟨ri_1 h, ri_2 h⟩
theorem c_X12_missing {ε : eT} {S : St} {v1 : Int32} {res : (Int32 × St)} (h : f_X12_missing S v1 = some res) : CI ε yX12_missing cX12_missing 2 (some .int) 2 [.ref (eA ε 172), .int v1] S (some (.int res.1)) res.2 := CI_of (by decide) (Nat.le_of_ble_eq_true rfl) rfl (fun κ C X => v_X12_missing_e C X h)
