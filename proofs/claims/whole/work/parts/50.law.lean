theorem kc_b_63 : (Int8.ofInt (63)).toInt32 = (63 : Int32) := by decide
theorem kc_i_6 : Int32.ofInt (6) = (6 : Int32) := by decide
theorem L_callvi {ε : eT} {κ : kT} {cc : ByteArray} {nL d : Nat} {own : String} (C : Act ε κ cc nL own d) {pc k n : Nat} {lv : List (Nat × Value)} {rest : List Value} {S S' : St} (Z : k ≤ (kR κ).cells ∧ n ≤ (kR κ).slots) {y : MethodName} {cy : ByteArray} {nY na index d' : Nat} {ret : Option FieldType} (F : CFv y cy nY ret na) {b : Nat} {As st0 : List Value} {x : Int32} (hM : CI ε y cy nY ret d' (.ref (eA ε b) :: As) S (some (.int x)) S') (hl : Cond.methodLink own index y ∈ tbW) {ci : Nat} {fs : List Value} {T : u_T} {N : Nat} (he : (wsOf ε S)[b]? = some (eA ε b, .inr (ci, fs))) (hc : vwCl[ci]? = some (y.cls, T, N)) (hdg : decode cc pc = .ok (.invokevirtual index, 3)) (hd : d' + 1 ≤ d) (hn : As.length = na) (hst : st0 = As.reverse ++ .ref (eA ε b) :: rest) (hw : (rest.map fun v => v.category).sum ≤ 8) (K : V ε κ nL (pc + 3) lv (.int x :: rest) (wsOf ε S') k n) : V ε κ nL pc lv st0 (wsOf ε S) k n := V_callvG C F hM hl b he hc hd hn hst hw hdg Z (fun r ws' h => by obtain ⟨rfl, rfl⟩ := h; exact K)
theorem L_callvl {ε : eT} {κ : kT} {cc : ByteArray} {nL d : Nat} {own : String} (C : Act ε κ cc nL own d) {pc k n : Nat} {lv : List (Nat × Value)} {rest : List Value} {S S' : St} (Z : k ≤ (kR κ).cells ∧ n ≤ (kR κ).slots) {y : MethodName} {cy : ByteArray} {nY na index d' : Nat} {ret : Option FieldType} (F : CFv y cy nY ret na) {b : Nat} {As st0 : List Value} {x : Int64} (hM : CI ε y cy nY ret d' (.ref (eA ε b) :: As) S (some (.long x)) S') (hl : Cond.methodLink own index y ∈ tbW) {ci : Nat} {fs : List Value} {T : u_T} {N : Nat} (he : (wsOf ε S)[b]? = some (eA ε b, .inr (ci, fs))) (hc : vwCl[ci]? = some (y.cls, T, N)) (hdg : decode cc pc = .ok (.invokevirtual index, 3)) (hd : d' + 1 ≤ d) (hn : As.length = na) (hst : st0 = As.reverse ++ .ref (eA ε b) :: rest) (hw : (rest.map fun v => v.category).sum ≤ 8) (K : V ε κ nL (pc + 3) lv (.long x :: rest) (wsOf ε S') k n) : V ε κ nL pc lv st0 (wsOf ε S) k n := V_callvG C F hM hl b he hc hd hn hst hw hdg Z (fun r ws' h => by obtain ⟨rfl, rfl⟩ := h; exact K)
theorem V_sld {ε : eT} {κ : kT} {cc : ByteArray} {nL d : Nat} {own : String} (C : Act ε κ cc nL own d) {pc k n : Nat} {lv : List (Nat × Value)} {st : List Value} {ws : va_W} {b L : Nat} {xs : Nat → Int32} {i : Int32} (hX : va_X b L xs (ks κ) (ks κ).heap) (hbl : b < (ks κ).heap.size) (hbA : ¬ kA κ b) (hin : inb i L = true) (hdg : decode cc pc = .ok (.iaload, 1)) (K : V ε κ nL (pc + 1) lv (.int (xs i.toNatClampNeg) :: st) ws k n) : V ε κ nL pc lv (.int i :: .ref b :: st) ws k n := fun H locs ls hP hD hS hl => va_sld C.1.1 C.1.2.1 hX hbl hbA hS (inb_in hin) hdg (K H locs ls hP hD hS hl)
theorem V_slen {ε : eT} {κ : kT} {cc : ByteArray} {nL d : Nat} {own : String} (C : Act ε κ cc nL own d) {pc k n : Nat} {lv : List (Nat × Value)} {st : List Value} {ws : va_W} {b L : Nat} {xs : Nat → Int32} (hX : va_X b L xs (ks κ) (ks κ).heap) (hbl : b < (ks κ).heap.size) (hbA : ¬ kA κ b) (hdg : decode cc pc = .ok (.arraylength, 1)) (K : V ε κ nL (pc + 1) lv (.int (Int32.ofNat L) :: st) ws k n) : V ε κ nL pc lv (.ref b :: st) ws k n := fun H locs ls hP hD hS hl => va_slen C.1.1 C.1.2.1 hX hbl hbA hS hdg (K H locs ls hP hD hS hl)
/-- what holds in the law's own frame -/
def LC (κ : kT) (b L : Nat) (xs : Nat → Int32) : Prop := va_X b L xs (ks κ) (ks κ).heap ∧ b < (ks κ).heap.size ∧ ¬ kA κ b ∧ (600000 ≤ (kR κ).cells ∧ 7302250 ≤ (kR κ).slots) ∧
  (kM κ).sig.returnType = ret ∧ kR κ = room_1 ∧ ka κ = #[Value.ref b] ∧ kQ κ = lw_Z (kb κ) #[Value.ref b] (ks κ) ∧ kA κ = fun q => (ks κ).heap.size ≤ q
theorem V_lawret {ε : eT} {κ : kT} {b L d : Nat} {xs : Nat → Int32} (C : Act ε κ code 4 RL d) (Z : LC κ b L xs) {pc : Nat} {lv : List (Nat × Value)} {ws : va_W} (hdg : decode code pc = .ok (.ireturn, 1)) : V ε κ 4 pc lv [.int 1] ws 600000 7302250 := by
  intro H locs ls hP hD hS hl
  obtain ⟨p, e, R, s, m, args, below, meth, c, Q, A⟩ := κ
  obtain ⟨-, -, -, -, hr, hR, ha, hQ, hA⟩ := Z
  dsimp only [kR, ka, kQ, kA, kM, ks, kb] at hr hR ha hQ hA
  subst hR; subst ha; subst hQ; subst hA
  refine va_forget (fun q hq => hS.2.2 q hq) ?_
  exact lw_ret C.1.1 C.1.2.1 hr C.2.1 hdg
def f_L_law_1544 (N : Nat) (L : Nat) (xs : Nat → Int32) (K18 : St → Int32 → Option Int32) (S : St) (v3 : Int32) : Option Int32 :=
 K18 S (v3 + 6)
theorem v_L_law_1544 {ε : eT} {κ : kT} {N b L : Nat} {xs : Nat → Int32} (C : Act ε κ code 4 RL 1900) (Z : LC κ b L xs) {K18 : St → Int32 → Option Int32} (hK18 : ∀ (S : St) (v3 : Int32), K18 S v3 = some 1 → V ε κ 4 18 [(0, .ref b), (1, .ref (eA ε 0)), (2, .ref (eA ε 172)), (3, .int v3)] [] (wsOf ε S) 600000 7302250) {S : St} {v3 : Int32} (h : f_L_law_1544 N L xs K18 S v3 = some 1) : V ε κ 4 1544 [(0, .ref b), (1, .ref (eA ε 0)), (2, .ref (eA ε 172)), (3, .int v3)] [] (wsOf ε S) 600000 7302250 := by
  unfold f_L_law_1544 at h
  refine V_iinc (v := (v3 + 6)) (lv' := [(3, .int (v3 + 6)), (0, .ref b), (1, .ref (eA ε 0)), (2, .ref (eA ε 172))]) C 3 dL_law_1544 rfl (congrArg _ kc_i_6) (by decide) rfl ?_
  refine V_goto C dL_law_1547 rfl ?_
  refine V_sub C [1, 2, 3, 0] rfl ?_
  exact hK18 _ _ h
def f_L_law_18 (N : Nat) (L : Nat) (xs : Nat → Int32) : Nat → St → Int32 → Option Int32
  | 0, _, _ => none
  | n + 1, S, v3 =>
    (if ((Int32.ofNat L) - (6 : Int32)) < v3 then
     some 1
     else
     (if inb v3 L = true then
     (if ((xs v3.toNatClampNeg) &&& (63 : Int32)) = 0 then
     (if inb (v3 + (1 : Int32)) L = true then
     (if inb (v3 + (2 : Int32)) L = true then
     (if inb (v3 + (3 : Int32)) L = true then
     bnd2 (f_X11_person S (xs (v3 + (1 : Int32)).toNatClampNeg) (xs (v3 + (2 : Int32)).toNatClampNeg) (xs (v3 + (3 : Int32)).toNatClampNeg)) (fun a49 S50 =>
     (if inb (v3 + (1 : Int32)) L = true then
     (if inb (v3 + (2 : Int32)) L = true then
     (if inb (v3 + (3 : Int32)) L = true then
     bnd2 (f_X12_person S50 (xs (v3 + (1 : Int32)).toNatClampNeg) (xs (v3 + (2 : Int32)).toNatClampNeg) (xs (v3 + (3 : Int32)).toNatClampNeg)) (fun a55 S56 =>
     (if a49 = a55 then
     f_L_law_1544 N L xs (f_L_law_18 N L xs n) S56 v3
     else
     some 0))
     else none)
     else none)
     else none))
     else none)
     else none)
     else none)
     else
     (if ((xs v3.toNatClampNeg) &&& (63 : Int32)) = 1 then
     (if inb (v3 + (1 : Int32)) L = true then
     (if inb (v3 + (2 : Int32)) L = true then
     bnd2 (f_X11_personIs N S (xs (v3 + (1 : Int32)).toNatClampNeg) (xs (v3 + (2 : Int32)).toNatClampNeg)) (fun a61 S62 =>
     (if inb (v3 + (1 : Int32)) L = true then
     (if inb (v3 + (2 : Int32)) L = true then
     bnd2 (f_X12_personIs N S62 (xs (v3 + (1 : Int32)).toNatClampNeg) (xs (v3 + (2 : Int32)).toNatClampNeg)) (fun a66 S67 =>
     (if a61 = a66 then
     f_L_law_1544 N L xs (f_L_law_18 N L xs n) S67 v3
     else
     some 0))
     else none)
     else none))
     else none)
     else none)
     else
     (if ((xs v3.toNatClampNeg) &&& (63 : Int32)) = 2 then
     (if inb (v3 + (1 : Int32)) L = true then
     (if inb (v3 + (2 : Int32)) L = true then
     bnd2 (f_X11_as N S (xs (v3 + (1 : Int32)).toNatClampNeg) (xs (v3 + (2 : Int32)).toNatClampNeg)) (fun a72 S73 =>
     (if inb (v3 + (1 : Int32)) L = true then
     (if inb (v3 + (2 : Int32)) L = true then
     bnd2 (f_X12_as S73 (xs (v3 + (1 : Int32)).toNatClampNeg) (xs (v3 + (2 : Int32)).toNatClampNeg)) (fun a77 S78 =>
     (if a72 = a77 then
     f_L_law_1544 N L xs (f_L_law_18 N L xs n) S78 v3
     else
     some 0))
     else none)
     else none))
     else none)
     else none)
     else
     (if ((xs v3.toNatClampNeg) &&& (63 : Int32)) = 3 then
     (if inb (v3 + (1 : Int32)) L = true then
     (if inb (v3 + (2 : Int32)) L = true then
     bnd2 (f_X11_become S (xs (v3 + (1 : Int32)).toNatClampNeg) (xs (v3 + (2 : Int32)).toNatClampNeg)) (fun a83 S84 =>
     (if inb (v3 + (1 : Int32)) L = true then
     (if inb (v3 + (2 : Int32)) L = true then
     bnd2 (f_X12_become S84 (xs (v3 + (1 : Int32)).toNatClampNeg) (xs (v3 + (2 : Int32)).toNatClampNeg)) (fun a88 S89 =>
     (if a83 = a88 then
     f_L_law_1544 N L xs (f_L_law_18 N L xs n) S89 v3
     else
     some 0))
     else none)
     else none))
     else none)
     else none)
     else
     (if ((xs v3.toNatClampNeg) &&& (63 : Int32)) = 4 then
     (if inb (v3 + (1 : Int32)) L = true then
     (if inb (v3 + (2 : Int32)) L = true then
     bnd2 (f_X11_purse S (xs (v3 + (1 : Int32)).toNatClampNeg) (xs (v3 + (2 : Int32)).toNatClampNeg)) (fun a94 S95 =>
     (if inb (v3 + (1 : Int32)) L = true then
     (if inb (v3 + (2 : Int32)) L = true then
     bnd2 (f_X12_purse S95 (xs (v3 + (1 : Int32)).toNatClampNeg) (xs (v3 + (2 : Int32)).toNatClampNeg)) (fun a99 S100 =>
     (if a94 = a99 then
     f_L_law_1544 N L xs (f_L_law_18 N L xs n) S100 v3
     else
     some 0))
     else none)
     else none))
     else none)
     else none)
     else
     (if ((xs v3.toNatClampNeg) &&& (63 : Int32)) = 5 then
     (if inb (v3 + (1 : Int32)) L = true then
     (if inb (v3 + (2 : Int32)) L = true then
     bnd2 (f_X11_thing S (xs (v3 + (1 : Int32)).toNatClampNeg) (xs (v3 + (2 : Int32)).toNatClampNeg)) (fun a105 S106 =>
     (if inb (v3 + (1 : Int32)) L = true then
     (if inb (v3 + (2 : Int32)) L = true then
     bnd2 (f_X12_thing S106 (xs (v3 + (1 : Int32)).toNatClampNeg) (xs (v3 + (2 : Int32)).toNatClampNeg)) (fun a110 S111 =>
     (if a105 = a110 then
     f_L_law_1544 N L xs (f_L_law_18 N L xs n) S111 v3
     else
     some 0))
     else none)
     else none))
     else none)
     else none)
     else
     (if ((xs v3.toNatClampNeg) &&& (63 : Int32)) = 6 then
     (if inb (v3 + (1 : Int32)) L = true then
     (if inb (v3 + (2 : Int32)) L = true then
     bnd2 (f_X11_thingIs N S (xs (v3 + (1 : Int32)).toNatClampNeg) (xs (v3 + (2 : Int32)).toNatClampNeg)) (fun a116 S117 =>
     (if inb (v3 + (1 : Int32)) L = true then
     (if inb (v3 + (2 : Int32)) L = true then
     bnd2 (f_X12_thingIs N S117 (xs (v3 + (1 : Int32)).toNatClampNeg) (xs (v3 + (2 : Int32)).toNatClampNeg)) (fun a121 S122 =>
     (if a116 = a121 then
     f_L_law_1544 N L xs (f_L_law_18 N L xs n) S122 v3
     else
     some 0))
     else none)
     else none))
     else none)
     else none)
     else
     (if ((xs v3.toNatClampNeg) &&& (63 : Int32)) = 7 then
     (if inb (v3 + (1 : Int32)) L = true then
     (if inb (v3 + (2 : Int32)) L = true then
     (if inb (v3 + (3 : Int32)) L = true then
     bnd2 (f_X11_worth S (xs (v3 + (1 : Int32)).toNatClampNeg) (xs (v3 + (2 : Int32)).toNatClampNeg) (xs (v3 + (3 : Int32)).toNatClampNeg)) (fun a128 S129 =>
     (if inb (v3 + (1 : Int32)) L = true then
     (if inb (v3 + (2 : Int32)) L = true then
     (if inb (v3 + (3 : Int32)) L = true then
     bnd2 (f_X12_worth S129 (xs (v3 + (1 : Int32)).toNatClampNeg) (xs (v3 + (2 : Int32)).toNatClampNeg) (xs (v3 + (3 : Int32)).toNatClampNeg)) (fun a134 S135 =>
     (if a128 = a134 then
     f_L_law_1544 N L xs (f_L_law_18 N L xs n) S135 v3
     else
     some 0))
     else none)
     else none)
     else none))
     else none)
     else none)
     else none)
     else
     (if ((xs v3.toNatClampNeg) &&& (63 : Int32)) = 8 then
     (if inb (v3 + (1 : Int32)) L = true then
     (if inb (v3 + (2 : Int32)) L = true then
     bnd2 (f_X11_price S (xs (v3 + (1 : Int32)).toNatClampNeg) (xs (v3 + (2 : Int32)).toNatClampNeg)) (fun a140 S141 =>
     (if inb (v3 + (1 : Int32)) L = true then
     (if inb (v3 + (2 : Int32)) L = true then
     bnd2 (f_X12_price S141 (xs (v3 + (1 : Int32)).toNatClampNeg) (xs (v3 + (2 : Int32)).toNatClampNeg)) (fun a145 S146 =>
     (if a140 = a145 then
     f_L_law_1544 N L xs (f_L_law_18 N L xs n) S146 v3
     else
     some 0))
     else none)
     else none))
     else none)
     else none)
     else
     (if ((xs v3.toNatClampNeg) &&& (63 : Int32)) = 9 then
     (if inb (v3 + (1 : Int32)) L = true then
     (if inb (v3 + (2 : Int32)) L = true then
     bnd2 (f_X11_keep N S (xs (v3 + (1 : Int32)).toNatClampNeg) (xs (v3 + (2 : Int32)).toNatClampNeg)) (fun a151 S152 =>
     (if inb (v3 + (1 : Int32)) L = true then
     (if inb (v3 + (2 : Int32)) L = true then
     bnd2 (f_X12_keep N S152 (xs (v3 + (1 : Int32)).toNatClampNeg) (xs (v3 + (2 : Int32)).toNatClampNeg)) (fun a156 S157 =>
     (if a151 = a156 then
     f_L_law_1544 N L xs (f_L_law_18 N L xs n) S157 v3
     else
     some 0))
     else none)
     else none))
     else none)
     else none)
     else
     (if ((xs v3.toNatClampNeg) &&& (63 : Int32)) = 10 then
     (if inb (v3 + (1 : Int32)) L = true then
     (if inb (v3 + (2 : Int32)) L = true then
     (if inb (v3 + (3 : Int32)) L = true then
     bnd2 (f_X11_pair S (xs (v3 + (1 : Int32)).toNatClampNeg) (xs (v3 + (2 : Int32)).toNatClampNeg) (xs (v3 + (3 : Int32)).toNatClampNeg)) (fun a163 S164 =>
     (if inb (v3 + (1 : Int32)) L = true then
     (if inb (v3 + (2 : Int32)) L = true then
     (if inb (v3 + (3 : Int32)) L = true then
     bnd2 (f_X12_pair S164 (xs (v3 + (1 : Int32)).toNatClampNeg) (xs (v3 + (2 : Int32)).toNatClampNeg) (xs (v3 + (3 : Int32)).toNatClampNeg)) (fun a169 S170 =>
     (if a163 = a169 then
     f_L_law_1544 N L xs (f_L_law_18 N L xs n) S170 v3
     else
     some 0))
     else none)
     else none)
     else none))
     else none)
     else none)
     else none)
     else
     (if ((xs v3.toNatClampNeg) &&& (63 : Int32)) = 11 then
     (if inb (v3 + (1 : Int32)) L = true then
     (if inb (v3 + (2 : Int32)) L = true then
     bnd2 (f_X11_pairIs S (xs (v3 + (1 : Int32)).toNatClampNeg) (xs (v3 + (2 : Int32)).toNatClampNeg)) (fun a175 S176 =>
     (if inb (v3 + (1 : Int32)) L = true then
     (if inb (v3 + (2 : Int32)) L = true then
     bnd2 (f_X12_pairIs S176 (xs (v3 + (1 : Int32)).toNatClampNeg) (xs (v3 + (2 : Int32)).toNatClampNeg)) (fun a180 S181 =>
     (if a175 = a180 then
     f_L_law_1544 N L xs (f_L_law_18 N L xs n) S181 v3
     else
     some 0))
     else none)
     else none))
     else none)
     else none)
     else
     (if ((xs v3.toNatClampNeg) &&& (63 : Int32)) = 12 then
     (if inb (v3 + (1 : Int32)) L = true then
     (if inb (v3 + (2 : Int32)) L = true then
     bnd2 (f_X11_rule S (xs (v3 + (1 : Int32)).toNatClampNeg) (xs (v3 + (2 : Int32)).toNatClampNeg)) (fun a186 S187 =>
     (if inb (v3 + (1 : Int32)) L = true then
     (if inb (v3 + (2 : Int32)) L = true then
     bnd2 (f_X12_rule S187 (xs (v3 + (1 : Int32)).toNatClampNeg) (xs (v3 + (2 : Int32)).toNatClampNeg)) (fun a191 S192 =>
     (if a186 = a191 then
     f_L_law_1544 N L xs (f_L_law_18 N L xs n) S192 v3
     else
     some 0))
     else none)
     else none))
     else none)
     else none)
     else
     (if ((xs v3.toNatClampNeg) &&& (63 : Int32)) = 13 then
     (if inb (v3 + (1 : Int32)) L = true then
     (if inb (v3 + (2 : Int32)) L = true then
     (if inb (v3 + (3 : Int32)) L = true then
     bnd2 (f_X11_feed N S ((((xs (v3 + (1 : Int32)).toNatClampNeg)).toInt64 <<< ((32 : Int32).toInt64 &&& 63)) ||| (((xs (v3 + (2 : Int32)).toNatClampNeg)).toInt64 &&& (4294967295 : Int64))) (xs (v3 + (3 : Int32)).toNatClampNeg)) (fun a198 S199 =>
     (if inb (v3 + (1 : Int32)) L = true then
     (if inb (v3 + (2 : Int32)) L = true then
     (if inb (v3 + (3 : Int32)) L = true then
     bnd2 (f_X12_feed N S199 ((((xs (v3 + (1 : Int32)).toNatClampNeg)).toInt64 <<< ((32 : Int32).toInt64 &&& 63)) ||| (((xs (v3 + (2 : Int32)).toNatClampNeg)).toInt64 &&& (4294967295 : Int64))) (xs (v3 + (3 : Int32)).toNatClampNeg)) (fun a204 S205 =>
     (if a198 = a204 then
     f_L_law_1544 N L xs (f_L_law_18 N L xs n) S205 v3
     else
     some 0))
     else none)
     else none)
     else none))
     else none)
     else none)
     else none)
     else
     (if ((xs v3.toNatClampNeg) &&& (63 : Int32)) = 14 then
     (if inb (v3 + (1 : Int32)) L = true then
     bnd2 (f_X11_text N S (xs (v3 + (1 : Int32)).toNatClampNeg)) (fun a209 S210 =>
     (if inb (v3 + (1 : Int32)) L = true then
     bnd2 (f_X12_text N S210 (xs (v3 + (1 : Int32)).toNatClampNeg)) (fun a213 S214 =>
     (if a209 = a213 then
     f_L_law_1544 N L xs (f_L_law_18 N L xs n) S214 v3
     else
     some 0))
     else none))
     else none)
     else
     (if ((xs v3.toNatClampNeg) &&& (63 : Int32)) = 15 then
     (if inb (v3 + (1 : Int32)) L = true then
     bnd2 (f_X11_untell N S (xs (v3 + (1 : Int32)).toNatClampNeg)) (fun a218 S219 =>
     (if inb (v3 + (1 : Int32)) L = true then
     bnd2 (f_X12_untell S219 (xs (v3 + (1 : Int32)).toNatClampNeg)) (fun a222 S223 =>
     (if a218 = a222 then
     f_L_law_1544 N L xs (f_L_law_18 N L xs n) S223 v3
     else
     some 0))
     else none))
     else none)
     else
     (if ((xs v3.toNatClampNeg) &&& (63 : Int32)) = 16 then
     (if inb (v3 + (1 : Int32)) L = true then
     bnd2 (f_X11_named N S (xs (v3 + (1 : Int32)).toNatClampNeg)) (fun a227 S228 =>
     (if inb (v3 + (1 : Int32)) L = true then
     bnd2 (f_X12_named N S228 (xs (v3 + (1 : Int32)).toNatClampNeg)) (fun a231 S232 =>
     (if a227 = a231 then
     f_L_law_1544 N L xs (f_L_law_18 N L xs n) S232 v3
     else
     some 0))
     else none))
     else none)
     else
     (if ((xs v3.toNatClampNeg) &&& (63 : Int32)) = 17 then
     (if inb (v3 + (1 : Int32)) L = true then
     bnd2 (f_X11_mended N S (xs (v3 + (1 : Int32)).toNatClampNeg)) (fun a236 S237 =>
     (if inb (v3 + (1 : Int32)) L = true then
     bnd2 (f_X12_mended N S237 (xs (v3 + (1 : Int32)).toNatClampNeg)) (fun a240 S241 =>
     (if a236 = a240 then
     f_L_law_1544 N L xs (f_L_law_18 N L xs n) S241 v3
     else
     some 0))
     else none))
     else none)
     else
     (if ((xs v3.toNatClampNeg) &&& (63 : Int32)) = 18 then
     (if inb (v3 + (1 : Int32)) L = true then
     bnd2 (f_X11_years N S (xs (v3 + (1 : Int32)).toNatClampNeg)) (fun a245 S246 =>
     (if inb (v3 + (1 : Int32)) L = true then
     bnd2 (f_X12_years N S246 (xs (v3 + (1 : Int32)).toNatClampNeg)) (fun a249 S250 =>
     (if a245 = a249 then
     f_L_law_1544 N L xs (f_L_law_18 N L xs n) S250 v3
     else
     some 0))
     else none))
     else none)
     else
     (if ((xs v3.toNatClampNeg) &&& (63 : Int32)) = 19 then
     (if inb (v3 + (1 : Int32)) L = true then
     bnd2 (f_X11_seed S (xs (v3 + (1 : Int32)).toNatClampNeg)) (fun a254 S255 =>
     (if inb (v3 + (1 : Int32)) L = true then
     bnd2 (f_X12_seed S255 (xs (v3 + (1 : Int32)).toNatClampNeg)) (fun a258 S259 =>
     (if a254 = a258 then
     f_L_law_1544 N L xs (f_L_law_18 N L xs n) S259 v3
     else
     some 0))
     else none))
     else none)
     else
     (if ((xs v3.toNatClampNeg) &&& (63 : Int32)) = 20 then
     (if inb (v3 + (1 : Int32)) L = true then
     (if inb (v3 + (2 : Int32)) L = true then
     (if inb (v3 + (3 : Int32)) L = true then
     bnd2 (f_X11_taken N S (xs (v3 + (1 : Int32)).toNatClampNeg) (xs (v3 + (2 : Int32)).toNatClampNeg) (xs (v3 + (3 : Int32)).toNatClampNeg)) (fun a265 S266 =>
     (if inb (v3 + (1 : Int32)) L = true then
     (if inb (v3 + (2 : Int32)) L = true then
     (if inb (v3 + (3 : Int32)) L = true then
     bnd2 (f_X12_taken N S266 (xs (v3 + (1 : Int32)).toNatClampNeg) (xs (v3 + (2 : Int32)).toNatClampNeg) (xs (v3 + (3 : Int32)).toNatClampNeg)) (fun a271 S272 =>
     (if (lg_cmp a265 a271) = 0 then
     f_L_law_1544 N L xs (f_L_law_18 N L xs n) S272 v3
     else
     some 0))
     else none)
     else none)
     else none))
     else none)
     else none)
     else none)
     else
     (if ((xs v3.toNatClampNeg) &&& (63 : Int32)) = 21 then
     (if inb (v3 + (1 : Int32)) L = true then
     (if inb (v3 + (2 : Int32)) L = true then
     (if inb (v3 + (3 : Int32)) L = true then
     bnd2 (f_X11_gain N S (xs (v3 + (1 : Int32)).toNatClampNeg) (xs (v3 + (2 : Int32)).toNatClampNeg) (xs (v3 + (3 : Int32)).toNatClampNeg)) (fun a278 S279 =>
     (if inb (v3 + (1 : Int32)) L = true then
     (if inb (v3 + (2 : Int32)) L = true then
     (if inb (v3 + (3 : Int32)) L = true then
     bnd2 (f_X12_gain N S279 (xs (v3 + (1 : Int32)).toNatClampNeg) (xs (v3 + (2 : Int32)).toNatClampNeg) (xs (v3 + (3 : Int32)).toNatClampNeg)) (fun a284 S285 =>
     (if (lg_cmp a278 a284) = 0 then
     f_L_law_1544 N L xs (f_L_law_18 N L xs n) S285 v3
     else
     some 0))
     else none)
     else none)
     else none))
     else none)
     else none)
     else none)
     else
     (if ((xs v3.toNatClampNeg) &&& (63 : Int32)) = 22 then
     (if inb (v3 + (1 : Int32)) L = true then
     bnd2 (f_X11_best N S (xs (v3 + (1 : Int32)).toNatClampNeg)) (fun a289 S290 =>
     (if inb (v3 + (1 : Int32)) L = true then
     bnd2 (f_X12_best N S290 (xs (v3 + (1 : Int32)).toNatClampNeg)) (fun a293 S294 =>
     (if a289 = a293 then
     f_L_law_1544 N L xs (f_L_law_18 N L xs n) S294 v3
     else
     some 0))
     else none))
     else none)
     else
     (if ((xs v3.toNatClampNeg) &&& (63 : Int32)) = 23 then
     (if inb (v3 + (1 : Int32)) L = true then
     bnd2 (f_X11_right N S (xs (v3 + (1 : Int32)).toNatClampNeg)) (fun a298 S299 =>
     (if inb (v3 + (1 : Int32)) L = true then
     bnd2 (f_X12_right N S299 (xs (v3 + (1 : Int32)).toNatClampNeg)) (fun a302 S303 =>
     (if a298 = a302 then
     f_L_law_1544 N L xs (f_L_law_18 N L xs n) S303 v3
     else
     some 0))
     else none))
     else none)
     else
     (if ((xs v3.toNatClampNeg) &&& (63 : Int32)) = 24 then
     (if inb (v3 + (1 : Int32)) L = true then
     bnd2 (f_X11_town N S (xs (v3 + (1 : Int32)).toNatClampNeg)) (fun a307 S308 =>
     (if inb (v3 + (1 : Int32)) L = true then
     bnd2 (f_X12_town N S308 (xs (v3 + (1 : Int32)).toNatClampNeg)) (fun a311 S312 =>
     (if a307 = a311 then
     f_L_law_1544 N L xs (f_L_law_18 N L xs n) S312 v3
     else
     some 0))
     else none))
     else none)
     else
     (if ((xs v3.toNatClampNeg) &&& (63 : Int32)) = 25 then
     (if inb (v3 + (1 : Int32)) L = true then
     (if inb (v3 + (2 : Int32)) L = true then
     bnd2 (f_X11_firm N S (xs (v3 + (1 : Int32)).toNatClampNeg) (xs (v3 + (2 : Int32)).toNatClampNeg)) (fun a317 S318 =>
     (if inb (v3 + (1 : Int32)) L = true then
     (if inb (v3 + (2 : Int32)) L = true then
     bnd2 (f_X12_firm N S318 (xs (v3 + (1 : Int32)).toNatClampNeg) (xs (v3 + (2 : Int32)).toNatClampNeg)) (fun a322 S323 =>
     (if a317 = a322 then
     f_L_law_1544 N L xs (f_L_law_18 N L xs n) S323 v3
     else
     some 0))
     else none)
     else none))
     else none)
     else none)
     else
     (if ((xs v3.toNatClampNeg) &&& (63 : Int32)) = 26 then
     (if inb (v3 + (1 : Int32)) L = true then
     (if inb (v3 + (2 : Int32)) L = true then
     bnd2 (f_X11_then N S (xs (v3 + (1 : Int32)).toNatClampNeg) (xs (v3 + (2 : Int32)).toNatClampNeg)) (fun a328 S329 =>
     (if inb (v3 + (1 : Int32)) L = true then
     (if inb (v3 + (2 : Int32)) L = true then
     bnd2 (f_X12_then N S329 (xs (v3 + (1 : Int32)).toNatClampNeg) (xs (v3 + (2 : Int32)).toNatClampNeg)) (fun a333 S334 =>
     (if a328 = a333 then
     f_L_law_1544 N L xs (f_L_law_18 N L xs n) S334 v3
     else
     some 0))
     else none)
     else none))
     else none)
     else none)
     else
     (if ((xs v3.toNatClampNeg) &&& (63 : Int32)) = 27 then
     (if inb (v3 + (1 : Int32)) L = true then
     (if inb (v3 + (2 : Int32)) L = true then
     bnd2 (f_X11_whose N S (xs (v3 + (1 : Int32)).toNatClampNeg) (xs (v3 + (2 : Int32)).toNatClampNeg)) (fun a339 S340 =>
     (if inb (v3 + (1 : Int32)) L = true then
     (if inb (v3 + (2 : Int32)) L = true then
     bnd2 (f_X12_whose N S340 (xs (v3 + (1 : Int32)).toNatClampNeg) (xs (v3 + (2 : Int32)).toNatClampNeg)) (fun a344 S345 =>
     (if a339 = a344 then
     f_L_law_1544 N L xs (f_L_law_18 N L xs n) S345 v3
     else
     some 0))
     else none)
     else none))
     else none)
     else none)
     else
     (if ((xs v3.toNatClampNeg) &&& (63 : Int32)) = 28 then
     (if inb (v3 + (1 : Int32)) L = true then
     bnd2 (f_X11_part N S (xs (v3 + (1 : Int32)).toNatClampNeg)) (fun a349 S350 =>
     (if inb (v3 + (1 : Int32)) L = true then
     bnd2 (f_X12_part N S350 (xs (v3 + (1 : Int32)).toNatClampNeg)) (fun a353 S354 =>
     (if a349 = a353 then
     f_L_law_1544 N L xs (f_L_law_18 N L xs n) S354 v3
     else
     some 0))
     else none))
     else none)
     else
     (if ((xs v3.toNatClampNeg) &&& (63 : Int32)) = 29 then
     (if inb (v3 + (1 : Int32)) L = true then
     (if inb (v3 + (2 : Int32)) L = true then
     (if inb (v3 + (3 : Int32)) L = true then
     bnd2 (f_X11_voice N S (xs (v3 + (1 : Int32)).toNatClampNeg) (xs (v3 + (2 : Int32)).toNatClampNeg) (xs (v3 + (3 : Int32)).toNatClampNeg)) (fun a360 S361 =>
     (if inb (v3 + (1 : Int32)) L = true then
     (if inb (v3 + (2 : Int32)) L = true then
     (if inb (v3 + (3 : Int32)) L = true then
     bnd2 (f_X12_voice S361 (xs (v3 + (1 : Int32)).toNatClampNeg) (xs (v3 + (2 : Int32)).toNatClampNeg) (xs (v3 + (3 : Int32)).toNatClampNeg)) (fun a366 S367 =>
     (if a360 = a366 then
     f_L_law_1544 N L xs (f_L_law_18 N L xs n) S367 v3
     else
     some 0))
     else none)
     else none)
     else none))
     else none)
     else none)
     else none)
     else
     (if ((xs v3.toNatClampNeg) &&& (63 : Int32)) = 30 then
     (if inb (v3 + (1 : Int32)) L = true then
     bnd2 (f_X11_body S (xs (v3 + (1 : Int32)).toNatClampNeg)) (fun a371 S372 =>
     (if inb (v3 + (1 : Int32)) L = true then
     bnd2 (f_X12_body S372 (xs (v3 + (1 : Int32)).toNatClampNeg)) (fun a375 S376 =>
     (if a371 = a375 then
     f_L_law_1544 N L xs (f_L_law_18 N L xs n) S376 v3
     else
     some 0))
     else none))
     else none)
     else
     (if ((xs v3.toNatClampNeg) &&& (63 : Int32)) = 31 then
     (if inb (v3 + (1 : Int32)) L = true then
     (if inb (v3 + (2 : Int32)) L = true then
     (if inb (v3 + (3 : Int32)) L = true then
     bnd2 (f_X11_sheet N S (xs (v3 + (1 : Int32)).toNatClampNeg) (xs (v3 + (2 : Int32)).toNatClampNeg) (xs (v3 + (3 : Int32)).toNatClampNeg)) (fun a382 S383 =>
     (if inb (v3 + (1 : Int32)) L = true then
     (if inb (v3 + (2 : Int32)) L = true then
     (if inb (v3 + (3 : Int32)) L = true then
     bnd2 (f_X12_sheet N S383 (xs (v3 + (1 : Int32)).toNatClampNeg) (xs (v3 + (2 : Int32)).toNatClampNeg) (xs (v3 + (3 : Int32)).toNatClampNeg)) (fun a388 S389 =>
     (if a382 = a388 then
     f_L_law_1544 N L xs (f_L_law_18 N L xs n) S389 v3
     else
     some 0))
     else none)
     else none)
     else none))
     else none)
     else none)
     else none)
     else
     (if ((xs v3.toNatClampNeg) &&& (63 : Int32)) = 32 then
     (if inb (v3 + (1 : Int32)) L = true then
     (if inb (v3 + (2 : Int32)) L = true then
     (if inb (v3 + (3 : Int32)) L = true then
     bnd2 (f_X11_put S (xs (v3 + (1 : Int32)).toNatClampNeg) (xs (v3 + (2 : Int32)).toNatClampNeg) (xs (v3 + (3 : Int32)).toNatClampNeg)) (fun a395 S396 =>
     (if inb (v3 + (1 : Int32)) L = true then
     (if inb (v3 + (2 : Int32)) L = true then
     (if inb (v3 + (3 : Int32)) L = true then
     bnd2 (f_X12_put S396 (xs (v3 + (1 : Int32)).toNatClampNeg) (xs (v3 + (2 : Int32)).toNatClampNeg) (xs (v3 + (3 : Int32)).toNatClampNeg)) (fun a401 S402 =>
     (if a395 = a401 then
     f_L_law_1544 N L xs (f_L_law_18 N L xs n) S402 v3
     else
     some 0))
     else none)
     else none)
     else none))
     else none)
     else none)
     else none)
     else
     (if ((xs v3.toNatClampNeg) &&& (63 : Int32)) = 33 then
     (if inb (v3 + (1 : Int32)) L = true then
     (if inb (v3 + (2 : Int32)) L = true then
     (if inb (v3 + (3 : Int32)) L = true then
     (if inb (v3 + (4 : Int32)) L = true then
     (if inb (v3 + (5 : Int32)) L = true then
     bnd2 (f_X11_move S (xs (v3 + (1 : Int32)).toNatClampNeg) (xs (v3 + (2 : Int32)).toNatClampNeg) (xs (v3 + (3 : Int32)).toNatClampNeg) (xs (v3 + (4 : Int32)).toNatClampNeg) (xs (v3 + (5 : Int32)).toNatClampNeg)) (fun a410 S411 =>
     (if inb (v3 + (1 : Int32)) L = true then
     (if inb (v3 + (2 : Int32)) L = true then
     (if inb (v3 + (3 : Int32)) L = true then
     (if inb (v3 + (4 : Int32)) L = true then
     (if inb (v3 + (5 : Int32)) L = true then
     bnd2 (f_X12_move N S411 (xs (v3 + (1 : Int32)).toNatClampNeg) (xs (v3 + (2 : Int32)).toNatClampNeg) (xs (v3 + (3 : Int32)).toNatClampNeg) (xs (v3 + (4 : Int32)).toNatClampNeg) (xs (v3 + (5 : Int32)).toNatClampNeg)) (fun a418 S419 =>
     (if a410 = a418 then
     f_L_law_1544 N L xs (f_L_law_18 N L xs n) S419 v3
     else
     some 0))
     else none)
     else none)
     else none)
     else none)
     else none))
     else none)
     else none)
     else none)
     else none)
     else none)
     else
     (if ((xs v3.toNatClampNeg) &&& (63 : Int32)) = 34 then
     (if inb (v3 + (1 : Int32)) L = true then
     (if inb (v3 + (2 : Int32)) L = true then
     bnd2 (f_X11_worths N S (xs (v3 + (1 : Int32)).toNatClampNeg) (xs (v3 + (2 : Int32)).toNatClampNeg)) (fun a424 S425 =>
     (if inb (v3 + (1 : Int32)) L = true then
     (if inb (v3 + (2 : Int32)) L = true then
     bnd2 (f_X12_worths N S425 (xs (v3 + (1 : Int32)).toNatClampNeg) (xs (v3 + (2 : Int32)).toNatClampNeg)) (fun a429 S430 =>
     (if a424 = a429 then
     f_L_law_1544 N L xs (f_L_law_18 N L xs n) S430 v3
     else
     some 0))
     else none)
     else none))
     else none)
     else none)
     else
     (if ((xs v3.toNatClampNeg) &&& (63 : Int32)) = 35 then
     (if inb (v3 + (1 : Int32)) L = true then
     bnd2 (f_X11_judge N S (xs (v3 + (1 : Int32)).toNatClampNeg)) (fun a434 S435 =>
     (if inb (v3 + (1 : Int32)) L = true then
     bnd2 (f_X12_judge N S435 (xs (v3 + (1 : Int32)).toNatClampNeg)) (fun a438 S439 =>
     (if a434 = a438 then
     f_L_law_1544 N L xs (f_L_law_18 N L xs n) S439 v3
     else
     some 0))
     else none))
     else none)
     else
     (if ((xs v3.toNatClampNeg) &&& (63 : Int32)) = 36 then
     bnd2 (f_X11_image S) (fun a442 S443 =>
     bnd2 (f_X12_image N S443) (fun a445 S446 =>
     (if a442 = a445 then
     f_L_law_1544 N L xs (f_L_law_18 N L xs n) S446 v3
     else
     some 0)))
     else
     (if ((xs v3.toNatClampNeg) &&& (63 : Int32)) = 37 then
     bnd2 (f_X11_restore S) (fun a449 S450 =>
     bnd2 (f_X12_restore N S450) (fun a452 S453 =>
     (if a449 = a452 then
     f_L_law_1544 N L xs (f_L_law_18 N L xs n) S453 v3
     else
     some 0)))
     else
     (if ((xs v3.toNatClampNeg) &&& (63 : Int32)) = 38 then
     (if inb (v3 + (1 : Int32)) L = true then
     bnd2 (f_X11_tell S (xs (v3 + (1 : Int32)).toNatClampNeg)) (fun a457 S458 =>
     (if inb (v3 + (1 : Int32)) L = true then
     bnd2 (f_X12_tell S458 (xs (v3 + (1 : Int32)).toNatClampNeg)) (fun a461 S462 =>
     (if a457 = a461 then
     f_L_law_1544 N L xs (f_L_law_18 N L xs n) S462 v3
     else
     some 0))
     else none))
     else none)
     else
     (if ((xs v3.toNatClampNeg) &&& (63 : Int32)) = 39 then
     (if inb (v3 + (1 : Int32)) L = true then
     bnd2 (f_X11_check N S (xs (v3 + (1 : Int32)).toNatClampNeg)) (fun a466 S467 =>
     (if inb (v3 + (1 : Int32)) L = true then
     bnd2 (f_X12_check N S467 (xs (v3 + (1 : Int32)).toNatClampNeg)) (fun a470 S471 =>
     (if a466 = a470 then
     f_L_law_1544 N L xs (f_L_law_18 N L xs n) S471 v3
     else
     some 0))
     else none))
     else none)
     else
     (if ((xs v3.toNatClampNeg) &&& (63 : Int32)) = 40 then
     (if inb (v3 + (1 : Int32)) L = true then
     bnd2 (f_X11_count S (xs (v3 + (1 : Int32)).toNatClampNeg)) (fun a475 S476 =>
     (if inb (v3 + (1 : Int32)) L = true then
     bnd2 (f_X12_count S476 (xs (v3 + (1 : Int32)).toNatClampNeg)) (fun a479 S480 =>
     (if a475 = a479 then
     f_L_law_1544 N L xs (f_L_law_18 N L xs n) S480 v3
     else
     some 0))
     else none))
     else none)
     else
     (if ((xs v3.toNatClampNeg) &&& (63 : Int32)) = 41 then
     (if inb (v3 + (1 : Int32)) L = true then
     bnd2 (f_X11_told S (xs (v3 + (1 : Int32)).toNatClampNeg)) (fun a484 S485 =>
     (if inb (v3 + (1 : Int32)) L = true then
     bnd2 (f_X12_told S485 (xs (v3 + (1 : Int32)).toNatClampNeg)) (fun a488 S489 =>
     (if a484 = a488 then
     f_L_law_1544 N L xs (f_L_law_18 N L xs n) S489 v3
     else
     some 0))
     else none))
     else none)
     else
     f_L_law_1544 N L xs (f_L_law_18 N L xs n) S v3))))))))))))))))))))))))))))))))))))))))))
     else none))
set_option maxRecDepth 100000 in
set_option maxHeartbeats 8000000 in
theorem v_L_law_18 {ε : eT} {κ : kT} {N b L : Nat} {xs : Nat → Int32} (C : Act ε κ code 4 RL 1900) (Z : LC κ b L xs) : ∀ (n : Nat) (S : St) (v3 : Int32) (h : f_L_law_18 N L xs n S v3 = some 1), V ε κ 4 18 [(0, .ref b), (1, .ref (eA ε 0)), (2, .ref (eA ε 172)), (3, .int v3)] [] (wsOf ε S) 600000 7302250 := by
  intro n
  induction n with
  | zero => intro S v3 h; cases h
  | succ n ih =>
    intro S v3 h
    rw [f_L_law_18] at h
    refine V_iload_n C 3 dL_law_18 rfl rfl ?_
    refine V_aload_n C 0 dL_law_19 rfl rfl ?_
    refine V_slen C Z.1 Z.2.1 Z.2.2.1 dL_law_20 ?_
    refine V_bipush C dL_law_21 kc_b_6 ?_
    refine V_isub C dL_law_23 ?_
    refine V_icmp_gt C dL_law_24 rfl (fun c1 => ?_) (fun c1 => ?_)
    · replace h := ifp c1 h
      refine V_iconst C dL_law_1550 kc_i_1 ?_
      exact V_lawret C Z dL_law_1551
    · replace h := ifn c1 h
      refine V_aload_n C 0 dL_law_27 rfl rfl ?_
      refine V_iload_n C 3 dL_law_28 rfl rfl ?_
      obtain ⟨g2, h⟩ := gdt h
      refine V_sld C Z.1 Z.2.1 Z.2.2.1 g2 dL_law_29 ?_
      refine V_bipush C dL_law_30 kc_b_63 ?_
      refine V_iand C dL_law_32 ?_
      by_cases c3 : ((xs v3.toNatClampNeg) &&& (63 : Int32)) = 0
      · replace h := ifp c3 h
        refine V_table C rfl dL_law_33 (off := 183) (by rw [c3]; decide +kernel) (tgt := 216) rfl ?_
        refine V_aload_n C 1 dL_law_216 rfl rfl ?_
        refine V_aload_n C 0 dL_law_217 rfl rfl ?_
        refine V_iload_n C 3 dL_law_218 rfl rfl ?_
        refine V_iconst C dL_law_219 kc_i_1 ?_
        refine V_iadd C dL_law_220 ?_
        obtain ⟨g45, h⟩ := gdt h
        refine V_sld C Z.1 Z.2.1 Z.2.2.1 g45 dL_law_221 ?_
        refine V_aload_n C 0 dL_law_222 rfl rfl ?_
        refine V_iload_n C 3 dL_law_223 rfl rfl ?_
        refine V_iconst C dL_law_224 kc_i_2 ?_
        refine V_iadd C dL_law_225 ?_
        obtain ⟨g46, h⟩ := gdt h
        refine V_sld C Z.1 Z.2.1 Z.2.2.1 g46 dL_law_226 ?_
        refine V_aload_n C 0 dL_law_227 rfl rfl ?_
        refine V_iload_n C 3 dL_law_228 rfl rfl ?_
        refine V_iconst C dL_law_229 kc_i_3 ?_
        refine V_iadd C dL_law_230 ?_
        obtain ⟨g47, h⟩ := gdt h
        refine V_sld C Z.1 Z.2.1 Z.2.2.1 g47 dL_law_231 ?_
        obtain ⟨a49, S50, e48, h⟩ := bnd2_s h
        refine L_callvi C Z.2.2.2.1 cf_X11_person (c_X11_person e48) q_ML_L_13 (ws_X11 sk_0) rfl dL_law_232 (by decide) rfl rfl (Nat.le_of_ble_eq_true rfl) ?_
        refine V_aload_n C 2 dL_law_235 rfl rfl ?_
        refine V_aload_n C 0 dL_law_236 rfl rfl ?_
        refine V_iload_n C 3 dL_law_237 rfl rfl ?_
        refine V_iconst C dL_law_238 kc_i_1 ?_
        refine V_iadd C dL_law_239 ?_
        obtain ⟨g51, h⟩ := gdt h
        refine V_sld C Z.1 Z.2.1 Z.2.2.1 g51 dL_law_240 ?_
        refine V_aload_n C 0 dL_law_241 rfl rfl ?_
        refine V_iload_n C 3 dL_law_242 rfl rfl ?_
        refine V_iconst C dL_law_243 kc_i_2 ?_
        refine V_iadd C dL_law_244 ?_
        obtain ⟨g52, h⟩ := gdt h
        refine V_sld C Z.1 Z.2.1 Z.2.2.1 g52 dL_law_245 ?_
        refine V_aload_n C 0 dL_law_246 rfl rfl ?_
        refine V_iload_n C 3 dL_law_247 rfl rfl ?_
        refine V_iconst C dL_law_248 kc_i_3 ?_
        refine V_iadd C dL_law_249 ?_
        obtain ⟨g53, h⟩ := gdt h
        refine V_sld C Z.1 Z.2.1 Z.2.2.1 g53 dL_law_250 ?_
        obtain ⟨a55, S56, e54, h⟩ := bnd2_s h
        refine L_callvi C Z.2.2.2.1 cf_X12_person (c_X12_person e54) q_ML_L_17 (ws_X12 sk_172) rfl dL_law_251 (by decide) rfl rfl (Nat.le_of_ble_eq_true rfl) ?_
        refine V_icmp_eq C dL_law_254 rfl (fun c57 => ?_) (fun c57 => ?_)
        · replace h := ifp c57 h
          exact v_L_law_1544 C Z ih h
        · replace h := ifn c57 h
          refine V_iconst C dL_law_257 kc_i_0 ?_
          exact absurd (Option.some.inj h) (by decide)
      · replace h := ifn c3 h
        by_cases c4 : ((xs v3.toNatClampNeg) &&& (63 : Int32)) = 1
        · replace h := ifp c4 h
          refine V_table C rfl dL_law_33 (off := 226) (by rw [c4]; decide +kernel) (tgt := 259) rfl ?_
          refine V_aload_n C 1 dL_law_259 rfl rfl ?_
          refine V_aload_n C 0 dL_law_260 rfl rfl ?_
          refine V_iload_n C 3 dL_law_261 rfl rfl ?_
          refine V_iconst C dL_law_262 kc_i_1 ?_
          refine V_iadd C dL_law_263 ?_
          obtain ⟨g58, h⟩ := gdt h
          refine V_sld C Z.1 Z.2.1 Z.2.2.1 g58 dL_law_264 ?_
          refine V_aload_n C 0 dL_law_265 rfl rfl ?_
          refine V_iload_n C 3 dL_law_266 rfl rfl ?_
          refine V_iconst C dL_law_267 kc_i_2 ?_
          refine V_iadd C dL_law_268 ?_
          obtain ⟨g59, h⟩ := gdt h
          refine V_sld C Z.1 Z.2.1 Z.2.2.1 g59 dL_law_269 ?_
          obtain ⟨a61, S62, e60, h⟩ := bnd2_s h
          refine L_callvi C Z.2.2.2.1 cf_X11_personIs (c_X11_personIs e60) q_ML_L_18 (ws_X11 sk_0) rfl dL_law_270 (by decide) rfl rfl (Nat.le_of_ble_eq_true rfl) ?_
          refine V_aload_n C 2 dL_law_273 rfl rfl ?_
          refine V_aload_n C 0 dL_law_274 rfl rfl ?_
          refine V_iload_n C 3 dL_law_275 rfl rfl ?_
          refine V_iconst C dL_law_276 kc_i_1 ?_
          refine V_iadd C dL_law_277 ?_
          obtain ⟨g63, h⟩ := gdt h
          refine V_sld C Z.1 Z.2.1 Z.2.2.1 g63 dL_law_278 ?_
          refine V_aload_n C 0 dL_law_279 rfl rfl ?_
          refine V_iload_n C 3 dL_law_280 rfl rfl ?_
          refine V_iconst C dL_law_281 kc_i_2 ?_
          refine V_iadd C dL_law_282 ?_
          obtain ⟨g64, h⟩ := gdt h
          refine V_sld C Z.1 Z.2.1 Z.2.2.1 g64 dL_law_283 ?_
          obtain ⟨a66, S67, e65, h⟩ := bnd2_s h
          refine L_callvi C Z.2.2.2.1 cf_X12_personIs (c_X12_personIs e65) q_ML_L_22 (ws_X12 sk_172) rfl dL_law_284 (by decide) rfl rfl (Nat.le_of_ble_eq_true rfl) ?_
          refine V_icmp_eq C dL_law_287 rfl (fun c68 => ?_) (fun c68 => ?_)
          · replace h := ifp c68 h
            exact v_L_law_1544 C Z ih h
          · replace h := ifn c68 h
            refine V_iconst C dL_law_290 kc_i_0 ?_
            exact absurd (Option.some.inj h) (by decide)
        · replace h := ifn c4 h
          by_cases c5 : ((xs v3.toNatClampNeg) &&& (63 : Int32)) = 2
          · replace h := ifp c5 h
            refine V_table C rfl dL_law_33 (off := 259) (by rw [c5]; decide +kernel) (tgt := 292) rfl ?_
            refine V_aload_n C 1 dL_law_292 rfl rfl ?_
            refine V_aload_n C 0 dL_law_293 rfl rfl ?_
            refine V_iload_n C 3 dL_law_294 rfl rfl ?_
            refine V_iconst C dL_law_295 kc_i_1 ?_
            refine V_iadd C dL_law_296 ?_
            obtain ⟨g69, h⟩ := gdt h
            refine V_sld C Z.1 Z.2.1 Z.2.2.1 g69 dL_law_297 ?_
            refine V_aload_n C 0 dL_law_298 rfl rfl ?_
            refine V_iload_n C 3 dL_law_299 rfl rfl ?_
            refine V_iconst C dL_law_300 kc_i_2 ?_
            refine V_iadd C dL_law_301 ?_
            obtain ⟨g70, h⟩ := gdt h
            refine V_sld C Z.1 Z.2.1 Z.2.2.1 g70 dL_law_302 ?_
            obtain ⟨a72, S73, e71, h⟩ := bnd2_s h
            refine L_callvi C Z.2.2.2.1 cf_X11_as (c_X11_as e71) q_ML_L_23 (ws_X11 sk_0) rfl dL_law_303 (by decide) rfl rfl (Nat.le_of_ble_eq_true rfl) ?_
            refine V_aload_n C 2 dL_law_306 rfl rfl ?_
            refine V_aload_n C 0 dL_law_307 rfl rfl ?_
            refine V_iload_n C 3 dL_law_308 rfl rfl ?_
            refine V_iconst C dL_law_309 kc_i_1 ?_
            refine V_iadd C dL_law_310 ?_
            obtain ⟨g74, h⟩ := gdt h
            refine V_sld C Z.1 Z.2.1 Z.2.2.1 g74 dL_law_311 ?_
            refine V_aload_n C 0 dL_law_312 rfl rfl ?_
            refine V_iload_n C 3 dL_law_313 rfl rfl ?_
            refine V_iconst C dL_law_314 kc_i_2 ?_
            refine V_iadd C dL_law_315 ?_
            obtain ⟨g75, h⟩ := gdt h
            refine V_sld C Z.1 Z.2.1 Z.2.2.1 g75 dL_law_316 ?_
            obtain ⟨a77, S78, e76, h⟩ := bnd2_s h
            refine L_callvi C Z.2.2.2.1 cf_X12_as (c_X12_as e76) q_ML_L_26 (ws_X12 sk_172) rfl dL_law_317 (by decide) rfl rfl (Nat.le_of_ble_eq_true rfl) ?_
            refine V_icmp_eq C dL_law_320 rfl (fun c79 => ?_) (fun c79 => ?_)
            · replace h := ifp c79 h
              exact v_L_law_1544 C Z ih h
            · replace h := ifn c79 h
              refine V_iconst C dL_law_323 kc_i_0 ?_
              exact absurd (Option.some.inj h) (by decide)
          · replace h := ifn c5 h
            by_cases c6 : ((xs v3.toNatClampNeg) &&& (63 : Int32)) = 3
            · replace h := ifp c6 h
              refine V_table C rfl dL_law_33 (off := 292) (by rw [c6]; decide +kernel) (tgt := 325) rfl ?_
              refine V_aload_n C 1 dL_law_325 rfl rfl ?_
              refine V_aload_n C 0 dL_law_326 rfl rfl ?_
              refine V_iload_n C 3 dL_law_327 rfl rfl ?_
              refine V_iconst C dL_law_328 kc_i_1 ?_
              refine V_iadd C dL_law_329 ?_
              obtain ⟨g80, h⟩ := gdt h
              refine V_sld C Z.1 Z.2.1 Z.2.2.1 g80 dL_law_330 ?_
              refine V_aload_n C 0 dL_law_331 rfl rfl ?_
              refine V_iload_n C 3 dL_law_332 rfl rfl ?_
              refine V_iconst C dL_law_333 kc_i_2 ?_
              refine V_iadd C dL_law_334 ?_
              obtain ⟨g81, h⟩ := gdt h
              refine V_sld C Z.1 Z.2.1 Z.2.2.1 g81 dL_law_335 ?_
              obtain ⟨a83, S84, e82, h⟩ := bnd2_s h
              refine L_callvi C Z.2.2.2.1 cf_X11_become (c_X11_become e82) q_ML_L_27 (ws_X11 sk_0) rfl dL_law_336 (by decide) rfl rfl (Nat.le_of_ble_eq_true rfl) ?_
              refine V_aload_n C 2 dL_law_339 rfl rfl ?_
              refine V_aload_n C 0 dL_law_340 rfl rfl ?_
              refine V_iload_n C 3 dL_law_341 rfl rfl ?_
              refine V_iconst C dL_law_342 kc_i_1 ?_
              refine V_iadd C dL_law_343 ?_
              obtain ⟨g85, h⟩ := gdt h
              refine V_sld C Z.1 Z.2.1 Z.2.2.1 g85 dL_law_344 ?_
              refine V_aload_n C 0 dL_law_345 rfl rfl ?_
              refine V_iload_n C 3 dL_law_346 rfl rfl ?_
              refine V_iconst C dL_law_347 kc_i_2 ?_
              refine V_iadd C dL_law_348 ?_
              obtain ⟨g86, h⟩ := gdt h
              refine V_sld C Z.1 Z.2.1 Z.2.2.1 g86 dL_law_349 ?_
              obtain ⟨a88, S89, e87, h⟩ := bnd2_s h
              refine L_callvi C Z.2.2.2.1 cf_X12_become (c_X12_become e87) q_ML_L_30 (ws_X12 sk_172) rfl dL_law_350 (by decide) rfl rfl (Nat.le_of_ble_eq_true rfl) ?_
              refine V_icmp_eq C dL_law_353 rfl (fun c90 => ?_) (fun c90 => ?_)
              · replace h := ifp c90 h
                exact v_L_law_1544 C Z ih h
              · replace h := ifn c90 h
                refine V_iconst C dL_law_356 kc_i_0 ?_
                exact absurd (Option.some.inj h) (by decide)
            · replace h := ifn c6 h
              by_cases c7 : ((xs v3.toNatClampNeg) &&& (63 : Int32)) = 4
              · replace h := ifp c7 h
                refine V_table C rfl dL_law_33 (off := 325) (by rw [c7]; decide +kernel) (tgt := 358) rfl ?_
                refine V_aload_n C 1 dL_law_358 rfl rfl ?_
                refine V_aload_n C 0 dL_law_359 rfl rfl ?_
                refine V_iload_n C 3 dL_law_360 rfl rfl ?_
                refine V_iconst C dL_law_361 kc_i_1 ?_
                refine V_iadd C dL_law_362 ?_
                obtain ⟨g91, h⟩ := gdt h
                refine V_sld C Z.1 Z.2.1 Z.2.2.1 g91 dL_law_363 ?_
                refine V_aload_n C 0 dL_law_364 rfl rfl ?_
                refine V_iload_n C 3 dL_law_365 rfl rfl ?_
                refine V_iconst C dL_law_366 kc_i_2 ?_
                refine V_iadd C dL_law_367 ?_
                obtain ⟨g92, h⟩ := gdt h
                refine V_sld C Z.1 Z.2.1 Z.2.2.1 g92 dL_law_368 ?_
                obtain ⟨a94, S95, e93, h⟩ := bnd2_s h
                refine L_callvi C Z.2.2.2.1 cf_X11_purse (c_X11_purse e93) q_ML_L_31 (ws_X11 sk_0) rfl dL_law_369 (by decide) rfl rfl (Nat.le_of_ble_eq_true rfl) ?_
                refine V_aload_n C 2 dL_law_372 rfl rfl ?_
                refine V_aload_n C 0 dL_law_373 rfl rfl ?_
                refine V_iload_n C 3 dL_law_374 rfl rfl ?_
                refine V_iconst C dL_law_375 kc_i_1 ?_
                refine V_iadd C dL_law_376 ?_
                obtain ⟨g96, h⟩ := gdt h
                refine V_sld C Z.1 Z.2.1 Z.2.2.1 g96 dL_law_377 ?_
                refine V_aload_n C 0 dL_law_378 rfl rfl ?_
                refine V_iload_n C 3 dL_law_379 rfl rfl ?_
                refine V_iconst C dL_law_380 kc_i_2 ?_
                refine V_iadd C dL_law_381 ?_
                obtain ⟨g97, h⟩ := gdt h
                refine V_sld C Z.1 Z.2.1 Z.2.2.1 g97 dL_law_382 ?_
                obtain ⟨a99, S100, e98, h⟩ := bnd2_s h
                refine L_callvi C Z.2.2.2.1 cf_X12_purse (c_X12_purse e98) q_ML_L_34 (ws_X12 sk_172) rfl dL_law_383 (by decide) rfl rfl (Nat.le_of_ble_eq_true rfl) ?_
                refine V_icmp_eq C dL_law_386 rfl (fun c101 => ?_) (fun c101 => ?_)
                · replace h := ifp c101 h
                  exact v_L_law_1544 C Z ih h
                · replace h := ifn c101 h
                  refine V_iconst C dL_law_389 kc_i_0 ?_
                  exact absurd (Option.some.inj h) (by decide)
              · replace h := ifn c7 h
                by_cases c8 : ((xs v3.toNatClampNeg) &&& (63 : Int32)) = 5
                · replace h := ifp c8 h
                  refine V_table C rfl dL_law_33 (off := 358) (by rw [c8]; decide +kernel) (tgt := 391) rfl ?_
                  refine V_aload_n C 1 dL_law_391 rfl rfl ?_
                  refine V_aload_n C 0 dL_law_392 rfl rfl ?_
                  refine V_iload_n C 3 dL_law_393 rfl rfl ?_
                  refine V_iconst C dL_law_394 kc_i_1 ?_
                  refine V_iadd C dL_law_395 ?_
                  obtain ⟨g102, h⟩ := gdt h
                  refine V_sld C Z.1 Z.2.1 Z.2.2.1 g102 dL_law_396 ?_
                  refine V_aload_n C 0 dL_law_397 rfl rfl ?_
                  refine V_iload_n C 3 dL_law_398 rfl rfl ?_
                  refine V_iconst C dL_law_399 kc_i_2 ?_
                  refine V_iadd C dL_law_400 ?_
                  obtain ⟨g103, h⟩ := gdt h
                  refine V_sld C Z.1 Z.2.1 Z.2.2.1 g103 dL_law_401 ?_
                  obtain ⟨a105, S106, e104, h⟩ := bnd2_s h
                  refine L_callvi C Z.2.2.2.1 cf_X11_thing (c_X11_thing e104) q_ML_L_35 (ws_X11 sk_0) rfl dL_law_402 (by decide) rfl rfl (Nat.le_of_ble_eq_true rfl) ?_
                  refine V_aload_n C 2 dL_law_405 rfl rfl ?_
                  refine V_aload_n C 0 dL_law_406 rfl rfl ?_
                  refine V_iload_n C 3 dL_law_407 rfl rfl ?_
                  refine V_iconst C dL_law_408 kc_i_1 ?_
                  refine V_iadd C dL_law_409 ?_
                  obtain ⟨g107, h⟩ := gdt h
                  refine V_sld C Z.1 Z.2.1 Z.2.2.1 g107 dL_law_410 ?_
                  refine V_aload_n C 0 dL_law_411 rfl rfl ?_
                  refine V_iload_n C 3 dL_law_412 rfl rfl ?_
                  refine V_iconst C dL_law_413 kc_i_2 ?_
                  refine V_iadd C dL_law_414 ?_
                  obtain ⟨g108, h⟩ := gdt h
                  refine V_sld C Z.1 Z.2.1 Z.2.2.1 g108 dL_law_415 ?_
                  obtain ⟨a110, S111, e109, h⟩ := bnd2_s h
                  refine L_callvi C Z.2.2.2.1 cf_X12_thing (c_X12_thing e109) q_ML_L_38 (ws_X12 sk_172) rfl dL_law_416 (by decide) rfl rfl (Nat.le_of_ble_eq_true rfl) ?_
                  refine V_icmp_eq C dL_law_419 rfl (fun c112 => ?_) (fun c112 => ?_)
                  · replace h := ifp c112 h
                    exact v_L_law_1544 C Z ih h
                  · replace h := ifn c112 h
                    refine V_iconst C dL_law_422 kc_i_0 ?_
                    exact absurd (Option.some.inj h) (by decide)
                · replace h := ifn c8 h
                  by_cases c9 : ((xs v3.toNatClampNeg) &&& (63 : Int32)) = 6
                  · replace h := ifp c9 h
                    refine V_table C rfl dL_law_33 (off := 391) (by rw [c9]; decide +kernel) (tgt := 424) rfl ?_
                    refine V_aload_n C 1 dL_law_424 rfl rfl ?_
                    refine V_aload_n C 0 dL_law_425 rfl rfl ?_
                    refine V_iload_n C 3 dL_law_426 rfl rfl ?_
                    refine V_iconst C dL_law_427 kc_i_1 ?_
                    refine V_iadd C dL_law_428 ?_
                    obtain ⟨g113, h⟩ := gdt h
                    refine V_sld C Z.1 Z.2.1 Z.2.2.1 g113 dL_law_429 ?_
                    refine V_aload_n C 0 dL_law_430 rfl rfl ?_
                    refine V_iload_n C 3 dL_law_431 rfl rfl ?_
                    refine V_iconst C dL_law_432 kc_i_2 ?_
                    refine V_iadd C dL_law_433 ?_
                    obtain ⟨g114, h⟩ := gdt h
                    refine V_sld C Z.1 Z.2.1 Z.2.2.1 g114 dL_law_434 ?_
                    obtain ⟨a116, S117, e115, h⟩ := bnd2_s h
                    refine L_callvi C Z.2.2.2.1 cf_X11_thingIs (c_X11_thingIs e115) q_ML_L_39 (ws_X11 sk_0) rfl dL_law_435 (by decide) rfl rfl (Nat.le_of_ble_eq_true rfl) ?_
                    refine V_aload_n C 2 dL_law_438 rfl rfl ?_
                    refine V_aload_n C 0 dL_law_439 rfl rfl ?_
                    refine V_iload_n C 3 dL_law_440 rfl rfl ?_
                    refine V_iconst C dL_law_441 kc_i_1 ?_
                    refine V_iadd C dL_law_442 ?_
                    obtain ⟨g118, h⟩ := gdt h
                    refine V_sld C Z.1 Z.2.1 Z.2.2.1 g118 dL_law_443 ?_
                    refine V_aload_n C 0 dL_law_444 rfl rfl ?_
                    refine V_iload_n C 3 dL_law_445 rfl rfl ?_
                    refine V_iconst C dL_law_446 kc_i_2 ?_
                    refine V_iadd C dL_law_447 ?_
                    obtain ⟨g119, h⟩ := gdt h
                    refine V_sld C Z.1 Z.2.1 Z.2.2.1 g119 dL_law_448 ?_
                    obtain ⟨a121, S122, e120, h⟩ := bnd2_s h
                    refine L_callvi C Z.2.2.2.1 cf_X12_thingIs (c_X12_thingIs e120) q_ML_L_42 (ws_X12 sk_172) rfl dL_law_449 (by decide) rfl rfl (Nat.le_of_ble_eq_true rfl) ?_
                    refine V_icmp_eq C dL_law_452 rfl (fun c123 => ?_) (fun c123 => ?_)
                    · replace h := ifp c123 h
                      exact v_L_law_1544 C Z ih h
                    · replace h := ifn c123 h
                      refine V_iconst C dL_law_455 kc_i_0 ?_
                      exact absurd (Option.some.inj h) (by decide)
                  · replace h := ifn c9 h
                    by_cases c10 : ((xs v3.toNatClampNeg) &&& (63 : Int32)) = 7
                    · replace h := ifp c10 h
                      refine V_table C rfl dL_law_33 (off := 424) (by rw [c10]; decide +kernel) (tgt := 457) rfl ?_
                      refine V_aload_n C 1 dL_law_457 rfl rfl ?_
                      refine V_aload_n C 0 dL_law_458 rfl rfl ?_
                      refine V_iload_n C 3 dL_law_459 rfl rfl ?_
                      refine V_iconst C dL_law_460 kc_i_1 ?_
                      refine V_iadd C dL_law_461 ?_
                      obtain ⟨g124, h⟩ := gdt h
                      refine V_sld C Z.1 Z.2.1 Z.2.2.1 g124 dL_law_462 ?_
                      refine V_aload_n C 0 dL_law_463 rfl rfl ?_
                      refine V_iload_n C 3 dL_law_464 rfl rfl ?_
                      refine V_iconst C dL_law_465 kc_i_2 ?_
                      refine V_iadd C dL_law_466 ?_
                      obtain ⟨g125, h⟩ := gdt h
                      refine V_sld C Z.1 Z.2.1 Z.2.2.1 g125 dL_law_467 ?_
                      refine V_aload_n C 0 dL_law_468 rfl rfl ?_
                      refine V_iload_n C 3 dL_law_469 rfl rfl ?_
                      refine V_iconst C dL_law_470 kc_i_3 ?_
                      refine V_iadd C dL_law_471 ?_
                      obtain ⟨g126, h⟩ := gdt h
                      refine V_sld C Z.1 Z.2.1 Z.2.2.1 g126 dL_law_472 ?_
                      obtain ⟨a128, S129, e127, h⟩ := bnd2_s h
                      refine L_callvi C Z.2.2.2.1 cf_X11_worth (c_X11_worth e127) q_ML_L_43 (ws_X11 sk_0) rfl dL_law_473 (by decide) rfl rfl (Nat.le_of_ble_eq_true rfl) ?_
                      refine V_aload_n C 2 dL_law_476 rfl rfl ?_
                      refine V_aload_n C 0 dL_law_477 rfl rfl ?_
                      refine V_iload_n C 3 dL_law_478 rfl rfl ?_
                      refine V_iconst C dL_law_479 kc_i_1 ?_
                      refine V_iadd C dL_law_480 ?_
                      obtain ⟨g130, h⟩ := gdt h
                      refine V_sld C Z.1 Z.2.1 Z.2.2.1 g130 dL_law_481 ?_
                      refine V_aload_n C 0 dL_law_482 rfl rfl ?_
                      refine V_iload_n C 3 dL_law_483 rfl rfl ?_
                      refine V_iconst C dL_law_484 kc_i_2 ?_
                      refine V_iadd C dL_law_485 ?_
                      obtain ⟨g131, h⟩ := gdt h
                      refine V_sld C Z.1 Z.2.1 Z.2.2.1 g131 dL_law_486 ?_
                      refine V_aload_n C 0 dL_law_487 rfl rfl ?_
                      refine V_iload_n C 3 dL_law_488 rfl rfl ?_
                      refine V_iconst C dL_law_489 kc_i_3 ?_
                      refine V_iadd C dL_law_490 ?_
                      obtain ⟨g132, h⟩ := gdt h
                      refine V_sld C Z.1 Z.2.1 Z.2.2.1 g132 dL_law_491 ?_
                      obtain ⟨a134, S135, e133, h⟩ := bnd2_s h
                      refine L_callvi C Z.2.2.2.1 cf_X12_worth (c_X12_worth e133) q_ML_L_46 (ws_X12 sk_172) rfl dL_law_492 (by decide) rfl rfl (Nat.le_of_ble_eq_true rfl) ?_
                      refine V_icmp_eq C dL_law_495 rfl (fun c136 => ?_) (fun c136 => ?_)
                      · replace h := ifp c136 h
                        exact v_L_law_1544 C Z ih h
                      · replace h := ifn c136 h
                        refine V_iconst C dL_law_498 kc_i_0 ?_
                        exact absurd (Option.some.inj h) (by decide)
                    · replace h := ifn c10 h
                      by_cases c11 : ((xs v3.toNatClampNeg) &&& (63 : Int32)) = 8
                      · replace h := ifp c11 h
                        refine V_table C rfl dL_law_33 (off := 467) (by rw [c11]; decide +kernel) (tgt := 500) rfl ?_
                        refine V_aload_n C 1 dL_law_500 rfl rfl ?_
                        refine V_aload_n C 0 dL_law_501 rfl rfl ?_
                        refine V_iload_n C 3 dL_law_502 rfl rfl ?_
                        refine V_iconst C dL_law_503 kc_i_1 ?_
                        refine V_iadd C dL_law_504 ?_
                        obtain ⟨g137, h⟩ := gdt h
                        refine V_sld C Z.1 Z.2.1 Z.2.2.1 g137 dL_law_505 ?_
                        refine V_aload_n C 0 dL_law_506 rfl rfl ?_
                        refine V_iload_n C 3 dL_law_507 rfl rfl ?_
                        refine V_iconst C dL_law_508 kc_i_2 ?_
                        refine V_iadd C dL_law_509 ?_
                        obtain ⟨g138, h⟩ := gdt h
                        refine V_sld C Z.1 Z.2.1 Z.2.2.1 g138 dL_law_510 ?_
                        obtain ⟨a140, S141, e139, h⟩ := bnd2_s h
                        refine L_callvi C Z.2.2.2.1 cf_X11_price (c_X11_price e139) q_ML_L_47 (ws_X11 sk_0) rfl dL_law_511 (by decide) rfl rfl (Nat.le_of_ble_eq_true rfl) ?_
                        refine V_aload_n C 2 dL_law_514 rfl rfl ?_
                        refine V_aload_n C 0 dL_law_515 rfl rfl ?_
                        refine V_iload_n C 3 dL_law_516 rfl rfl ?_
                        refine V_iconst C dL_law_517 kc_i_1 ?_
                        refine V_iadd C dL_law_518 ?_
                        obtain ⟨g142, h⟩ := gdt h
                        refine V_sld C Z.1 Z.2.1 Z.2.2.1 g142 dL_law_519 ?_
                        refine V_aload_n C 0 dL_law_520 rfl rfl ?_
                        refine V_iload_n C 3 dL_law_521 rfl rfl ?_
                        refine V_iconst C dL_law_522 kc_i_2 ?_
                        refine V_iadd C dL_law_523 ?_
                        obtain ⟨g143, h⟩ := gdt h
                        refine V_sld C Z.1 Z.2.1 Z.2.2.1 g143 dL_law_524 ?_
                        obtain ⟨a145, S146, e144, h⟩ := bnd2_s h
                        refine L_callvi C Z.2.2.2.1 cf_X12_price (c_X12_price e144) q_ML_L_50 (ws_X12 sk_172) rfl dL_law_525 (by decide) rfl rfl (Nat.le_of_ble_eq_true rfl) ?_
                        refine V_icmp_eq C dL_law_528 rfl (fun c147 => ?_) (fun c147 => ?_)
                        · replace h := ifp c147 h
                          exact v_L_law_1544 C Z ih h
                        · replace h := ifn c147 h
                          refine V_iconst C dL_law_531 kc_i_0 ?_
                          exact absurd (Option.some.inj h) (by decide)
                      · replace h := ifn c11 h
                        by_cases c12 : ((xs v3.toNatClampNeg) &&& (63 : Int32)) = 9
                        · replace h := ifp c12 h
                          refine V_table C rfl dL_law_33 (off := 500) (by rw [c12]; decide +kernel) (tgt := 533) rfl ?_
                          refine V_aload_n C 1 dL_law_533 rfl rfl ?_
                          refine V_aload_n C 0 dL_law_534 rfl rfl ?_
                          refine V_iload_n C 3 dL_law_535 rfl rfl ?_
                          refine V_iconst C dL_law_536 kc_i_1 ?_
                          refine V_iadd C dL_law_537 ?_
                          obtain ⟨g148, h⟩ := gdt h
                          refine V_sld C Z.1 Z.2.1 Z.2.2.1 g148 dL_law_538 ?_
                          refine V_aload_n C 0 dL_law_539 rfl rfl ?_
                          refine V_iload_n C 3 dL_law_540 rfl rfl ?_
                          refine V_iconst C dL_law_541 kc_i_2 ?_
                          refine V_iadd C dL_law_542 ?_
                          obtain ⟨g149, h⟩ := gdt h
                          refine V_sld C Z.1 Z.2.1 Z.2.2.1 g149 dL_law_543 ?_
                          obtain ⟨a151, S152, e150, h⟩ := bnd2_s h
                          refine L_callvi C Z.2.2.2.1 cf_X11_keep (c_X11_keep e150) q_ML_L_51 (ws_X11 sk_0) rfl dL_law_544 (by decide) rfl rfl (Nat.le_of_ble_eq_true rfl) ?_
                          refine V_aload_n C 2 dL_law_547 rfl rfl ?_
                          refine V_aload_n C 0 dL_law_548 rfl rfl ?_
                          refine V_iload_n C 3 dL_law_549 rfl rfl ?_
                          refine V_iconst C dL_law_550 kc_i_1 ?_
                          refine V_iadd C dL_law_551 ?_
                          obtain ⟨g153, h⟩ := gdt h
                          refine V_sld C Z.1 Z.2.1 Z.2.2.1 g153 dL_law_552 ?_
                          refine V_aload_n C 0 dL_law_553 rfl rfl ?_
                          refine V_iload_n C 3 dL_law_554 rfl rfl ?_
                          refine V_iconst C dL_law_555 kc_i_2 ?_
                          refine V_iadd C dL_law_556 ?_
                          obtain ⟨g154, h⟩ := gdt h
                          refine V_sld C Z.1 Z.2.1 Z.2.2.1 g154 dL_law_557 ?_
                          obtain ⟨a156, S157, e155, h⟩ := bnd2_s h
                          refine L_callvi C Z.2.2.2.1 cf_X12_keep (c_X12_keep e155) q_ML_L_54 (ws_X12 sk_172) rfl dL_law_558 (by decide) rfl rfl (Nat.le_of_ble_eq_true rfl) ?_
                          refine V_icmp_eq C dL_law_561 rfl (fun c158 => ?_) (fun c158 => ?_)
                          · replace h := ifp c158 h
                            exact v_L_law_1544 C Z ih h
                          · replace h := ifn c158 h
                            refine V_iconst C dL_law_564 kc_i_0 ?_
                            exact absurd (Option.some.inj h) (by decide)
                        · replace h := ifn c12 h
                          by_cases c13 : ((xs v3.toNatClampNeg) &&& (63 : Int32)) = 10
                          · replace h := ifp c13 h
                            refine V_table C rfl dL_law_33 (off := 533) (by rw [c13]; decide +kernel) (tgt := 566) rfl ?_
                            refine V_aload_n C 1 dL_law_566 rfl rfl ?_
                            refine V_aload_n C 0 dL_law_567 rfl rfl ?_
                            refine V_iload_n C 3 dL_law_568 rfl rfl ?_
                            refine V_iconst C dL_law_569 kc_i_1 ?_
                            refine V_iadd C dL_law_570 ?_
                            obtain ⟨g159, h⟩ := gdt h
                            refine V_sld C Z.1 Z.2.1 Z.2.2.1 g159 dL_law_571 ?_
                            refine V_aload_n C 0 dL_law_572 rfl rfl ?_
                            refine V_iload_n C 3 dL_law_573 rfl rfl ?_
                            refine V_iconst C dL_law_574 kc_i_2 ?_
                            refine V_iadd C dL_law_575 ?_
                            obtain ⟨g160, h⟩ := gdt h
                            refine V_sld C Z.1 Z.2.1 Z.2.2.1 g160 dL_law_576 ?_
                            refine V_aload_n C 0 dL_law_577 rfl rfl ?_
                            refine V_iload_n C 3 dL_law_578 rfl rfl ?_
                            refine V_iconst C dL_law_579 kc_i_3 ?_
                            refine V_iadd C dL_law_580 ?_
                            obtain ⟨g161, h⟩ := gdt h
                            refine V_sld C Z.1 Z.2.1 Z.2.2.1 g161 dL_law_581 ?_
                            obtain ⟨a163, S164, e162, h⟩ := bnd2_s h
                            refine L_callvi C Z.2.2.2.1 cf_X11_pair (c_X11_pair e162) q_ML_L_55 (ws_X11 sk_0) rfl dL_law_582 (by decide) rfl rfl (Nat.le_of_ble_eq_true rfl) ?_
                            refine V_aload_n C 2 dL_law_585 rfl rfl ?_
                            refine V_aload_n C 0 dL_law_586 rfl rfl ?_
                            refine V_iload_n C 3 dL_law_587 rfl rfl ?_
                            refine V_iconst C dL_law_588 kc_i_1 ?_
                            refine V_iadd C dL_law_589 ?_
                            obtain ⟨g165, h⟩ := gdt h
                            refine V_sld C Z.1 Z.2.1 Z.2.2.1 g165 dL_law_590 ?_
                            refine V_aload_n C 0 dL_law_591 rfl rfl ?_
                            refine V_iload_n C 3 dL_law_592 rfl rfl ?_
                            refine V_iconst C dL_law_593 kc_i_2 ?_
                            refine V_iadd C dL_law_594 ?_
                            obtain ⟨g166, h⟩ := gdt h
                            refine V_sld C Z.1 Z.2.1 Z.2.2.1 g166 dL_law_595 ?_
                            refine V_aload_n C 0 dL_law_596 rfl rfl ?_
                            refine V_iload_n C 3 dL_law_597 rfl rfl ?_
                            refine V_iconst C dL_law_598 kc_i_3 ?_
                            refine V_iadd C dL_law_599 ?_
                            obtain ⟨g167, h⟩ := gdt h
                            refine V_sld C Z.1 Z.2.1 Z.2.2.1 g167 dL_law_600 ?_
                            obtain ⟨a169, S170, e168, h⟩ := bnd2_s h
                            refine L_callvi C Z.2.2.2.1 cf_X12_pair (c_X12_pair e168) q_ML_L_58 (ws_X12 sk_172) rfl dL_law_601 (by decide) rfl rfl (Nat.le_of_ble_eq_true rfl) ?_
                            refine V_icmp_eq C dL_law_604 rfl (fun c171 => ?_) (fun c171 => ?_)
                            · replace h := ifp c171 h
                              exact v_L_law_1544 C Z ih h
                            · replace h := ifn c171 h
                              refine V_iconst C dL_law_607 kc_i_0 ?_
                              exact absurd (Option.some.inj h) (by decide)
                          · replace h := ifn c13 h
                            by_cases c14 : ((xs v3.toNatClampNeg) &&& (63 : Int32)) = 11
                            · replace h := ifp c14 h
                              refine V_table C rfl dL_law_33 (off := 576) (by rw [c14]; decide +kernel) (tgt := 609) rfl ?_
                              refine V_aload_n C 1 dL_law_609 rfl rfl ?_
                              refine V_aload_n C 0 dL_law_610 rfl rfl ?_
                              refine V_iload_n C 3 dL_law_611 rfl rfl ?_
                              refine V_iconst C dL_law_612 kc_i_1 ?_
                              refine V_iadd C dL_law_613 ?_
                              obtain ⟨g172, h⟩ := gdt h
                              refine V_sld C Z.1 Z.2.1 Z.2.2.1 g172 dL_law_614 ?_
                              refine V_aload_n C 0 dL_law_615 rfl rfl ?_
                              refine V_iload_n C 3 dL_law_616 rfl rfl ?_
                              refine V_iconst C dL_law_617 kc_i_2 ?_
                              refine V_iadd C dL_law_618 ?_
                              obtain ⟨g173, h⟩ := gdt h
                              refine V_sld C Z.1 Z.2.1 Z.2.2.1 g173 dL_law_619 ?_
                              obtain ⟨a175, S176, e174, h⟩ := bnd2_s h
                              refine L_callvi C Z.2.2.2.1 cf_X11_pairIs (c_X11_pairIs e174) q_ML_L_59 (ws_X11 sk_0) rfl dL_law_620 (by decide) rfl rfl (Nat.le_of_ble_eq_true rfl) ?_
                              refine V_aload_n C 2 dL_law_623 rfl rfl ?_
                              refine V_aload_n C 0 dL_law_624 rfl rfl ?_
                              refine V_iload_n C 3 dL_law_625 rfl rfl ?_
                              refine V_iconst C dL_law_626 kc_i_1 ?_
                              refine V_iadd C dL_law_627 ?_
                              obtain ⟨g177, h⟩ := gdt h
                              refine V_sld C Z.1 Z.2.1 Z.2.2.1 g177 dL_law_628 ?_
                              refine V_aload_n C 0 dL_law_629 rfl rfl ?_
                              refine V_iload_n C 3 dL_law_630 rfl rfl ?_
                              refine V_iconst C dL_law_631 kc_i_2 ?_
                              refine V_iadd C dL_law_632 ?_
                              obtain ⟨g178, h⟩ := gdt h
                              refine V_sld C Z.1 Z.2.1 Z.2.2.1 g178 dL_law_633 ?_
                              obtain ⟨a180, S181, e179, h⟩ := bnd2_s h
                              refine L_callvi C Z.2.2.2.1 cf_X12_pairIs (c_X12_pairIs e179) q_ML_L_62 (ws_X12 sk_172) rfl dL_law_634 (by decide) rfl rfl (Nat.le_of_ble_eq_true rfl) ?_
                              refine V_icmp_eq C dL_law_637 rfl (fun c182 => ?_) (fun c182 => ?_)
                              · replace h := ifp c182 h
                                exact v_L_law_1544 C Z ih h
                              · replace h := ifn c182 h
                                refine V_iconst C dL_law_640 kc_i_0 ?_
                                exact absurd (Option.some.inj h) (by decide)
                            · replace h := ifn c14 h
                              by_cases c15 : ((xs v3.toNatClampNeg) &&& (63 : Int32)) = 12
                              · replace h := ifp c15 h
                                refine V_table C rfl dL_law_33 (off := 609) (by rw [c15]; decide +kernel) (tgt := 642) rfl ?_
                                refine V_aload_n C 1 dL_law_642 rfl rfl ?_
                                refine V_aload_n C 0 dL_law_643 rfl rfl ?_
                                refine V_iload_n C 3 dL_law_644 rfl rfl ?_
                                refine V_iconst C dL_law_645 kc_i_1 ?_
                                refine V_iadd C dL_law_646 ?_
                                obtain ⟨g183, h⟩ := gdt h
                                refine V_sld C Z.1 Z.2.1 Z.2.2.1 g183 dL_law_647 ?_
                                refine V_aload_n C 0 dL_law_648 rfl rfl ?_
                                refine V_iload_n C 3 dL_law_649 rfl rfl ?_
                                refine V_iconst C dL_law_650 kc_i_2 ?_
                                refine V_iadd C dL_law_651 ?_
                                obtain ⟨g184, h⟩ := gdt h
                                refine V_sld C Z.1 Z.2.1 Z.2.2.1 g184 dL_law_652 ?_
                                obtain ⟨a186, S187, e185, h⟩ := bnd2_s h
                                refine L_callvi C Z.2.2.2.1 cf_X11_rule (c_X11_rule e185) q_ML_L_63 (ws_X11 sk_0) rfl dL_law_653 (by decide) rfl rfl (Nat.le_of_ble_eq_true rfl) ?_
                                refine V_aload_n C 2 dL_law_656 rfl rfl ?_
                                refine V_aload_n C 0 dL_law_657 rfl rfl ?_
                                refine V_iload_n C 3 dL_law_658 rfl rfl ?_
                                refine V_iconst C dL_law_659 kc_i_1 ?_
                                refine V_iadd C dL_law_660 ?_
                                obtain ⟨g188, h⟩ := gdt h
                                refine V_sld C Z.1 Z.2.1 Z.2.2.1 g188 dL_law_661 ?_
                                refine V_aload_n C 0 dL_law_662 rfl rfl ?_
                                refine V_iload_n C 3 dL_law_663 rfl rfl ?_
                                refine V_iconst C dL_law_664 kc_i_2 ?_
                                refine V_iadd C dL_law_665 ?_
                                obtain ⟨g189, h⟩ := gdt h
                                refine V_sld C Z.1 Z.2.1 Z.2.2.1 g189 dL_law_666 ?_
                                obtain ⟨a191, S192, e190, h⟩ := bnd2_s h
                                refine L_callvi C Z.2.2.2.1 cf_X12_rule (c_X12_rule e190) q_ML_L_66 (ws_X12 sk_172) rfl dL_law_667 (by decide) rfl rfl (Nat.le_of_ble_eq_true rfl) ?_
                                refine V_icmp_eq C dL_law_670 rfl (fun c193 => ?_) (fun c193 => ?_)
                                · replace h := ifp c193 h
                                  exact v_L_law_1544 C Z ih h
                                · replace h := ifn c193 h
                                  refine V_iconst C dL_law_673 kc_i_0 ?_
                                  exact absurd (Option.some.inj h) (by decide)
                              · replace h := ifn c15 h
                                by_cases c16 : ((xs v3.toNatClampNeg) &&& (63 : Int32)) = 13
                                · replace h := ifp c16 h
                                  refine V_table C rfl dL_law_33 (off := 642) (by rw [c16]; decide +kernel) (tgt := 675) rfl ?_
                                  refine V_aload_n C 1 dL_law_675 rfl rfl ?_
                                  refine V_aload_n C 0 dL_law_676 rfl rfl ?_
                                  refine V_iload_n C 3 dL_law_677 rfl rfl ?_
                                  refine V_iconst C dL_law_678 kc_i_1 ?_
                                  refine V_iadd C dL_law_679 ?_
                                  obtain ⟨g194, h⟩ := gdt h
                                  refine V_sld C Z.1 Z.2.1 Z.2.2.1 g194 dL_law_680 ?_
                                  refine V_i2l C dL_law_681 ?_
                                  refine V_bipush C dL_law_682 kc_b_32 ?_
                                  refine V_lshl C dL_law_684 ?_
                                  refine V_aload_n C 0 dL_law_685 rfl rfl ?_
                                  refine V_iload_n C 3 dL_law_686 rfl rfl ?_
                                  refine V_iconst C dL_law_687 kc_i_2 ?_
                                  refine V_iadd C dL_law_688 ?_
                                  obtain ⟨g195, h⟩ := gdt h
                                  refine V_sld C Z.1 Z.2.1 Z.2.2.1 g195 dL_law_689 ?_
                                  refine V_i2l C dL_law_690 ?_
                                  refine V_ldc2 C q_KL_L_67 dL_law_691 ?_
                                  refine V_land C dL_law_694 ?_
                                  refine V_lor C dL_law_695 ?_
                                  refine V_aload_n C 0 dL_law_696 rfl rfl ?_
                                  refine V_iload_n C 3 dL_law_697 rfl rfl ?_
                                  refine V_iconst C dL_law_698 kc_i_3 ?_
                                  refine V_iadd C dL_law_699 ?_
                                  obtain ⟨g196, h⟩ := gdt h
                                  refine V_sld C Z.1 Z.2.1 Z.2.2.1 g196 dL_law_700 ?_
                                  obtain ⟨a198, S199, e197, h⟩ := bnd2_s h
                                  refine L_callvi C Z.2.2.2.1 cf_X11_feed (c_X11_feed e197) q_ML_L_69 (ws_X11 sk_0) rfl dL_law_701 (by decide) rfl rfl (Nat.le_of_ble_eq_true rfl) ?_
                                  refine V_aload_n C 2 dL_law_704 rfl rfl ?_
                                  refine V_aload_n C 0 dL_law_705 rfl rfl ?_
                                  refine V_iload_n C 3 dL_law_706 rfl rfl ?_
                                  refine V_iconst C dL_law_707 kc_i_1 ?_
                                  refine V_iadd C dL_law_708 ?_
                                  obtain ⟨g200, h⟩ := gdt h
                                  refine V_sld C Z.1 Z.2.1 Z.2.2.1 g200 dL_law_709 ?_
                                  refine V_i2l C dL_law_710 ?_
                                  refine V_bipush C dL_law_711 kc_b_32 ?_
                                  refine V_lshl C dL_law_713 ?_
                                  refine V_aload_n C 0 dL_law_714 rfl rfl ?_
                                  refine V_iload_n C 3 dL_law_715 rfl rfl ?_
                                  refine V_iconst C dL_law_716 kc_i_2 ?_
                                  refine V_iadd C dL_law_717 ?_
                                  obtain ⟨g201, h⟩ := gdt h
                                  refine V_sld C Z.1 Z.2.1 Z.2.2.1 g201 dL_law_718 ?_
                                  refine V_i2l C dL_law_719 ?_
                                  refine V_ldc2 C q_KL_L_67 dL_law_720 ?_
                                  refine V_land C dL_law_723 ?_
                                  refine V_lor C dL_law_724 ?_
                                  refine V_aload_n C 0 dL_law_725 rfl rfl ?_
                                  refine V_iload_n C 3 dL_law_726 rfl rfl ?_
                                  refine V_iconst C dL_law_727 kc_i_3 ?_
                                  refine V_iadd C dL_law_728 ?_
                                  obtain ⟨g202, h⟩ := gdt h
                                  refine V_sld C Z.1 Z.2.1 Z.2.2.1 g202 dL_law_729 ?_
                                  obtain ⟨a204, S205, e203, h⟩ := bnd2_s h
                                  refine L_callvi C Z.2.2.2.1 cf_X12_feed (c_X12_feed e203) q_ML_L_73 (ws_X12 sk_172) rfl dL_law_730 (by decide) rfl rfl (Nat.le_of_ble_eq_true rfl) ?_
                                  refine V_icmp_eq C dL_law_733 rfl (fun c206 => ?_) (fun c206 => ?_)
                                  · replace h := ifp c206 h
                                    exact v_L_law_1544 C Z ih h
                                  · replace h := ifn c206 h
                                    refine V_iconst C dL_law_736 kc_i_0 ?_
                                    exact absurd (Option.some.inj h) (by decide)
                                · replace h := ifn c16 h
                                  by_cases c17 : ((xs v3.toNatClampNeg) &&& (63 : Int32)) = 14
                                  · replace h := ifp c17 h
                                    refine V_table C rfl dL_law_33 (off := 705) (by rw [c17]; decide +kernel) (tgt := 738) rfl ?_
                                    refine V_aload_n C 1 dL_law_738 rfl rfl ?_
                                    refine V_aload_n C 0 dL_law_739 rfl rfl ?_
                                    refine V_iload_n C 3 dL_law_740 rfl rfl ?_
                                    refine V_iconst C dL_law_741 kc_i_1 ?_
                                    refine V_iadd C dL_law_742 ?_
                                    obtain ⟨g207, h⟩ := gdt h
                                    refine V_sld C Z.1 Z.2.1 Z.2.2.1 g207 dL_law_743 ?_
                                    obtain ⟨a209, S210, e208, h⟩ := bnd2_s h
                                    refine L_callvi C Z.2.2.2.1 cf_X11_text (c_X11_text e208) q_ML_L_74 (ws_X11 sk_0) rfl dL_law_744 (by decide) rfl rfl (Nat.le_of_ble_eq_true rfl) ?_
                                    refine V_aload_n C 2 dL_law_747 rfl rfl ?_
                                    refine V_aload_n C 0 dL_law_748 rfl rfl ?_
                                    refine V_iload_n C 3 dL_law_749 rfl rfl ?_
                                    refine V_iconst C dL_law_750 kc_i_1 ?_
                                    refine V_iadd C dL_law_751 ?_
                                    obtain ⟨g211, h⟩ := gdt h
                                    refine V_sld C Z.1 Z.2.1 Z.2.2.1 g211 dL_law_752 ?_
                                    obtain ⟨a213, S214, e212, h⟩ := bnd2_s h
                                    refine L_callvi C Z.2.2.2.1 cf_X12_text (c_X12_text e212) q_ML_L_78 (ws_X12 sk_172) rfl dL_law_753 (by decide) rfl rfl (Nat.le_of_ble_eq_true rfl) ?_
                                    refine V_icmp_eq C dL_law_756 rfl (fun c215 => ?_) (fun c215 => ?_)
                                    · replace h := ifp c215 h
                                      exact v_L_law_1544 C Z ih h
                                    · replace h := ifn c215 h
                                      refine V_iconst C dL_law_759 kc_i_0 ?_
                                      exact absurd (Option.some.inj h) (by decide)
                                  · replace h := ifn c17 h
                                    by_cases c18 : ((xs v3.toNatClampNeg) &&& (63 : Int32)) = 15
                                    · replace h := ifp c18 h
                                      refine V_table C rfl dL_law_33 (off := 728) (by rw [c18]; decide +kernel) (tgt := 761) rfl ?_
                                      refine V_aload_n C 1 dL_law_761 rfl rfl ?_
                                      refine V_aload_n C 0 dL_law_762 rfl rfl ?_
                                      refine V_iload_n C 3 dL_law_763 rfl rfl ?_
                                      refine V_iconst C dL_law_764 kc_i_1 ?_
                                      refine V_iadd C dL_law_765 ?_
                                      obtain ⟨g216, h⟩ := gdt h
                                      refine V_sld C Z.1 Z.2.1 Z.2.2.1 g216 dL_law_766 ?_
                                      obtain ⟨a218, S219, e217, h⟩ := bnd2_s h
                                      refine L_callvi C Z.2.2.2.1 cf_X11_untell (c_X11_untell e217) q_ML_L_79 (ws_X11 sk_0) rfl dL_law_767 (by decide) rfl rfl (Nat.le_of_ble_eq_true rfl) ?_
                                      refine V_aload_n C 2 dL_law_770 rfl rfl ?_
                                      refine V_aload_n C 0 dL_law_771 rfl rfl ?_
                                      refine V_iload_n C 3 dL_law_772 rfl rfl ?_
                                      refine V_iconst C dL_law_773 kc_i_1 ?_
                                      refine V_iadd C dL_law_774 ?_
                                      obtain ⟨g220, h⟩ := gdt h
                                      refine V_sld C Z.1 Z.2.1 Z.2.2.1 g220 dL_law_775 ?_
                                      obtain ⟨a222, S223, e221, h⟩ := bnd2_s h
                                      refine L_callvi C Z.2.2.2.1 cf_X12_untell (c_X12_untell e221) q_ML_L_82 (ws_X12 sk_172) rfl dL_law_776 (by decide) rfl rfl (Nat.le_of_ble_eq_true rfl) ?_
                                      refine V_icmp_eq C dL_law_779 rfl (fun c224 => ?_) (fun c224 => ?_)
                                      · replace h := ifp c224 h
                                        exact v_L_law_1544 C Z ih h
                                      · replace h := ifn c224 h
                                        refine V_iconst C dL_law_782 kc_i_0 ?_
                                        exact absurd (Option.some.inj h) (by decide)
                                    · replace h := ifn c18 h
                                      by_cases c19 : ((xs v3.toNatClampNeg) &&& (63 : Int32)) = 16
                                      · replace h := ifp c19 h
                                        refine V_table C rfl dL_law_33 (off := 751) (by rw [c19]; decide +kernel) (tgt := 784) rfl ?_
                                        refine V_aload_n C 1 dL_law_784 rfl rfl ?_
                                        refine V_aload_n C 0 dL_law_785 rfl rfl ?_
                                        refine V_iload_n C 3 dL_law_786 rfl rfl ?_
                                        refine V_iconst C dL_law_787 kc_i_1 ?_
                                        refine V_iadd C dL_law_788 ?_
                                        obtain ⟨g225, h⟩ := gdt h
                                        refine V_sld C Z.1 Z.2.1 Z.2.2.1 g225 dL_law_789 ?_
                                        obtain ⟨a227, S228, e226, h⟩ := bnd2_s h
                                        refine L_callvi C Z.2.2.2.1 cf_X11_named (c_X11_named e226) q_ML_L_83 (ws_X11 sk_0) rfl dL_law_790 (by decide) rfl rfl (Nat.le_of_ble_eq_true rfl) ?_
                                        refine V_aload_n C 2 dL_law_793 rfl rfl ?_
                                        refine V_aload_n C 0 dL_law_794 rfl rfl ?_
                                        refine V_iload_n C 3 dL_law_795 rfl rfl ?_
                                        refine V_iconst C dL_law_796 kc_i_1 ?_
                                        refine V_iadd C dL_law_797 ?_
                                        obtain ⟨g229, h⟩ := gdt h
                                        refine V_sld C Z.1 Z.2.1 Z.2.2.1 g229 dL_law_798 ?_
                                        obtain ⟨a231, S232, e230, h⟩ := bnd2_s h
                                        refine L_callvi C Z.2.2.2.1 cf_X12_named (c_X12_named e230) q_ML_L_86 (ws_X12 sk_172) rfl dL_law_799 (by decide) rfl rfl (Nat.le_of_ble_eq_true rfl) ?_
                                        refine V_icmp_eq C dL_law_802 rfl (fun c233 => ?_) (fun c233 => ?_)
                                        · replace h := ifp c233 h
                                          exact v_L_law_1544 C Z ih h
                                        · replace h := ifn c233 h
                                          refine V_iconst C dL_law_805 kc_i_0 ?_
                                          exact absurd (Option.some.inj h) (by decide)
                                      · replace h := ifn c19 h
                                        by_cases c20 : ((xs v3.toNatClampNeg) &&& (63 : Int32)) = 17
                                        · replace h := ifp c20 h
                                          refine V_table C rfl dL_law_33 (off := 774) (by rw [c20]; decide +kernel) (tgt := 807) rfl ?_
                                          refine V_aload_n C 1 dL_law_807 rfl rfl ?_
                                          refine V_aload_n C 0 dL_law_808 rfl rfl ?_
                                          refine V_iload_n C 3 dL_law_809 rfl rfl ?_
                                          refine V_iconst C dL_law_810 kc_i_1 ?_
                                          refine V_iadd C dL_law_811 ?_
                                          obtain ⟨g234, h⟩ := gdt h
                                          refine V_sld C Z.1 Z.2.1 Z.2.2.1 g234 dL_law_812 ?_
                                          obtain ⟨a236, S237, e235, h⟩ := bnd2_s h
                                          refine L_callvi C Z.2.2.2.1 cf_X11_mended (c_X11_mended e235) q_ML_L_87 (ws_X11 sk_0) rfl dL_law_813 (by decide) rfl rfl (Nat.le_of_ble_eq_true rfl) ?_
                                          refine V_aload_n C 2 dL_law_816 rfl rfl ?_
                                          refine V_aload_n C 0 dL_law_817 rfl rfl ?_
                                          refine V_iload_n C 3 dL_law_818 rfl rfl ?_
                                          refine V_iconst C dL_law_819 kc_i_1 ?_
                                          refine V_iadd C dL_law_820 ?_
                                          obtain ⟨g238, h⟩ := gdt h
                                          refine V_sld C Z.1 Z.2.1 Z.2.2.1 g238 dL_law_821 ?_
                                          obtain ⟨a240, S241, e239, h⟩ := bnd2_s h
                                          refine L_callvi C Z.2.2.2.1 cf_X12_mended (c_X12_mended e239) q_ML_L_90 (ws_X12 sk_172) rfl dL_law_822 (by decide) rfl rfl (Nat.le_of_ble_eq_true rfl) ?_
                                          refine V_icmp_eq C dL_law_825 rfl (fun c242 => ?_) (fun c242 => ?_)
                                          · replace h := ifp c242 h
                                            exact v_L_law_1544 C Z ih h
                                          · replace h := ifn c242 h
                                            refine V_iconst C dL_law_828 kc_i_0 ?_
                                            exact absurd (Option.some.inj h) (by decide)
                                        · replace h := ifn c20 h
                                          by_cases c21 : ((xs v3.toNatClampNeg) &&& (63 : Int32)) = 18
                                          · replace h := ifp c21 h
                                            refine V_table C rfl dL_law_33 (off := 797) (by rw [c21]; decide +kernel) (tgt := 830) rfl ?_
                                            refine V_aload_n C 1 dL_law_830 rfl rfl ?_
                                            refine V_aload_n C 0 dL_law_831 rfl rfl ?_
                                            refine V_iload_n C 3 dL_law_832 rfl rfl ?_
                                            refine V_iconst C dL_law_833 kc_i_1 ?_
                                            refine V_iadd C dL_law_834 ?_
                                            obtain ⟨g243, h⟩ := gdt h
                                            refine V_sld C Z.1 Z.2.1 Z.2.2.1 g243 dL_law_835 ?_
                                            obtain ⟨a245, S246, e244, h⟩ := bnd2_s h
                                            refine L_callvi C Z.2.2.2.1 cf_X11_years (c_X11_years e244) q_ML_L_91 (ws_X11 sk_0) rfl dL_law_836 (by decide) rfl rfl (Nat.le_of_ble_eq_true rfl) ?_
                                            refine V_aload_n C 2 dL_law_839 rfl rfl ?_
                                            refine V_aload_n C 0 dL_law_840 rfl rfl ?_
                                            refine V_iload_n C 3 dL_law_841 rfl rfl ?_
                                            refine V_iconst C dL_law_842 kc_i_1 ?_
                                            refine V_iadd C dL_law_843 ?_
                                            obtain ⟨g247, h⟩ := gdt h
                                            refine V_sld C Z.1 Z.2.1 Z.2.2.1 g247 dL_law_844 ?_
                                            obtain ⟨a249, S250, e248, h⟩ := bnd2_s h
                                            refine L_callvi C Z.2.2.2.1 cf_X12_years (c_X12_years e248) q_ML_L_94 (ws_X12 sk_172) rfl dL_law_845 (by decide) rfl rfl (Nat.le_of_ble_eq_true rfl) ?_
                                            refine V_icmp_eq C dL_law_848 rfl (fun c251 => ?_) (fun c251 => ?_)
                                            · replace h := ifp c251 h
                                              exact v_L_law_1544 C Z ih h
                                            · replace h := ifn c251 h
                                              refine V_iconst C dL_law_851 kc_i_0 ?_
                                              exact absurd (Option.some.inj h) (by decide)
                                          · replace h := ifn c21 h
                                            by_cases c22 : ((xs v3.toNatClampNeg) &&& (63 : Int32)) = 19
                                            · replace h := ifp c22 h
                                              refine V_table C rfl dL_law_33 (off := 820) (by rw [c22]; decide +kernel) (tgt := 853) rfl ?_
                                              refine V_aload_n C 1 dL_law_853 rfl rfl ?_
                                              refine V_aload_n C 0 dL_law_854 rfl rfl ?_
                                              refine V_iload_n C 3 dL_law_855 rfl rfl ?_
                                              refine V_iconst C dL_law_856 kc_i_1 ?_
                                              refine V_iadd C dL_law_857 ?_
                                              obtain ⟨g252, h⟩ := gdt h
                                              refine V_sld C Z.1 Z.2.1 Z.2.2.1 g252 dL_law_858 ?_
                                              obtain ⟨a254, S255, e253, h⟩ := bnd2_s h
                                              refine L_callvi C Z.2.2.2.1 cf_X11_seed (c_X11_seed e253) q_ML_L_95 (ws_X11 sk_0) rfl dL_law_859 (by decide) rfl rfl (Nat.le_of_ble_eq_true rfl) ?_
                                              refine V_aload_n C 2 dL_law_862 rfl rfl ?_
                                              refine V_aload_n C 0 dL_law_863 rfl rfl ?_
                                              refine V_iload_n C 3 dL_law_864 rfl rfl ?_
                                              refine V_iconst C dL_law_865 kc_i_1 ?_
                                              refine V_iadd C dL_law_866 ?_
                                              obtain ⟨g256, h⟩ := gdt h
                                              refine V_sld C Z.1 Z.2.1 Z.2.2.1 g256 dL_law_867 ?_
                                              obtain ⟨a258, S259, e257, h⟩ := bnd2_s h
                                              refine L_callvi C Z.2.2.2.1 cf_X12_seed (c_X12_seed e257) q_ML_L_98 (ws_X12 sk_172) rfl dL_law_868 (by decide) rfl rfl (Nat.le_of_ble_eq_true rfl) ?_
                                              refine V_icmp_eq C dL_law_871 rfl (fun c260 => ?_) (fun c260 => ?_)
                                              · replace h := ifp c260 h
                                                exact v_L_law_1544 C Z ih h
                                              · replace h := ifn c260 h
                                                refine V_iconst C dL_law_874 kc_i_0 ?_
                                                exact absurd (Option.some.inj h) (by decide)
                                            · replace h := ifn c22 h
                                              by_cases c23 : ((xs v3.toNatClampNeg) &&& (63 : Int32)) = 20
                                              · replace h := ifp c23 h
                                                refine V_table C rfl dL_law_33 (off := 843) (by rw [c23]; decide +kernel) (tgt := 876) rfl ?_
                                                refine V_aload_n C 1 dL_law_876 rfl rfl ?_
                                                refine V_aload_n C 0 dL_law_877 rfl rfl ?_
                                                refine V_iload_n C 3 dL_law_878 rfl rfl ?_
                                                refine V_iconst C dL_law_879 kc_i_1 ?_
                                                refine V_iadd C dL_law_880 ?_
                                                obtain ⟨g261, h⟩ := gdt h
                                                refine V_sld C Z.1 Z.2.1 Z.2.2.1 g261 dL_law_881 ?_
                                                refine V_aload_n C 0 dL_law_882 rfl rfl ?_
                                                refine V_iload_n C 3 dL_law_883 rfl rfl ?_
                                                refine V_iconst C dL_law_884 kc_i_2 ?_
                                                refine V_iadd C dL_law_885 ?_
                                                obtain ⟨g262, h⟩ := gdt h
                                                refine V_sld C Z.1 Z.2.1 Z.2.2.1 g262 dL_law_886 ?_
                                                refine V_aload_n C 0 dL_law_887 rfl rfl ?_
                                                refine V_iload_n C 3 dL_law_888 rfl rfl ?_
                                                refine V_iconst C dL_law_889 kc_i_3 ?_
                                                refine V_iadd C dL_law_890 ?_
                                                obtain ⟨g263, h⟩ := gdt h
                                                refine V_sld C Z.1 Z.2.1 Z.2.2.1 g263 dL_law_891 ?_
                                                obtain ⟨a265, S266, e264, h⟩ := bnd2_s h
                                                refine L_callvl C Z.2.2.2.1 cf_X11_taken (c_X11_taken e264) q_ML_L_99 (ws_X11 sk_0) rfl dL_law_892 (by decide) rfl rfl (Nat.le_of_ble_eq_true rfl) ?_
                                                refine V_aload_n C 2 dL_law_895 rfl rfl ?_
                                                refine V_aload_n C 0 dL_law_896 rfl rfl ?_
                                                refine V_iload_n C 3 dL_law_897 rfl rfl ?_
                                                refine V_iconst C dL_law_898 kc_i_1 ?_
                                                refine V_iadd C dL_law_899 ?_
                                                obtain ⟨g267, h⟩ := gdt h
                                                refine V_sld C Z.1 Z.2.1 Z.2.2.1 g267 dL_law_900 ?_
                                                refine V_aload_n C 0 dL_law_901 rfl rfl ?_
                                                refine V_iload_n C 3 dL_law_902 rfl rfl ?_
                                                refine V_iconst C dL_law_903 kc_i_2 ?_
                                                refine V_iadd C dL_law_904 ?_
                                                obtain ⟨g268, h⟩ := gdt h
                                                refine V_sld C Z.1 Z.2.1 Z.2.2.1 g268 dL_law_905 ?_
                                                refine V_aload_n C 0 dL_law_906 rfl rfl ?_
                                                refine V_iload_n C 3 dL_law_907 rfl rfl ?_
                                                refine V_iconst C dL_law_908 kc_i_3 ?_
                                                refine V_iadd C dL_law_909 ?_
                                                obtain ⟨g269, h⟩ := gdt h
                                                refine V_sld C Z.1 Z.2.1 Z.2.2.1 g269 dL_law_910 ?_
                                                obtain ⟨a271, S272, e270, h⟩ := bnd2_s h
                                                refine L_callvl C Z.2.2.2.1 cf_X12_taken (c_X12_taken e270) q_ML_L_103 (ws_X12 sk_172) rfl dL_law_911 (by decide) rfl rfl (Nat.le_of_ble_eq_true rfl) ?_
                                                refine V_lcmp C dL_law_914 ?_
                                                refine V_if_eq C dL_law_915 rfl (fun c273 => ?_) (fun c273 => ?_)
                                                · replace h := ifp c273 h
                                                  exact v_L_law_1544 C Z ih h
                                                · replace h := ifn c273 h
                                                  refine V_iconst C dL_law_918 kc_i_0 ?_
                                                  exact absurd (Option.some.inj h) (by decide)
                                              · replace h := ifn c23 h
                                                by_cases c24 : ((xs v3.toNatClampNeg) &&& (63 : Int32)) = 21
                                                · replace h := ifp c24 h
                                                  refine V_table C rfl dL_law_33 (off := 887) (by rw [c24]; decide +kernel) (tgt := 920) rfl ?_
                                                  refine V_aload_n C 1 dL_law_920 rfl rfl ?_
                                                  refine V_aload_n C 0 dL_law_921 rfl rfl ?_
                                                  refine V_iload_n C 3 dL_law_922 rfl rfl ?_
                                                  refine V_iconst C dL_law_923 kc_i_1 ?_
                                                  refine V_iadd C dL_law_924 ?_
                                                  obtain ⟨g274, h⟩ := gdt h
                                                  refine V_sld C Z.1 Z.2.1 Z.2.2.1 g274 dL_law_925 ?_
                                                  refine V_aload_n C 0 dL_law_926 rfl rfl ?_
                                                  refine V_iload_n C 3 dL_law_927 rfl rfl ?_
                                                  refine V_iconst C dL_law_928 kc_i_2 ?_
                                                  refine V_iadd C dL_law_929 ?_
                                                  obtain ⟨g275, h⟩ := gdt h
                                                  refine V_sld C Z.1 Z.2.1 Z.2.2.1 g275 dL_law_930 ?_
                                                  refine V_aload_n C 0 dL_law_931 rfl rfl ?_
                                                  refine V_iload_n C 3 dL_law_932 rfl rfl ?_
                                                  refine V_iconst C dL_law_933 kc_i_3 ?_
                                                  refine V_iadd C dL_law_934 ?_
                                                  obtain ⟨g276, h⟩ := gdt h
                                                  refine V_sld C Z.1 Z.2.1 Z.2.2.1 g276 dL_law_935 ?_
                                                  obtain ⟨a278, S279, e277, h⟩ := bnd2_s h
                                                  refine L_callvl C Z.2.2.2.1 cf_X11_gain (c_X11_gain e277) q_ML_L_104 (ws_X11 sk_0) rfl dL_law_936 (by decide) rfl rfl (Nat.le_of_ble_eq_true rfl) ?_
                                                  refine V_aload_n C 2 dL_law_939 rfl rfl ?_
                                                  refine V_aload_n C 0 dL_law_940 rfl rfl ?_
                                                  refine V_iload_n C 3 dL_law_941 rfl rfl ?_
                                                  refine V_iconst C dL_law_942 kc_i_1 ?_
                                                  refine V_iadd C dL_law_943 ?_
                                                  obtain ⟨g280, h⟩ := gdt h
                                                  refine V_sld C Z.1 Z.2.1 Z.2.2.1 g280 dL_law_944 ?_
                                                  refine V_aload_n C 0 dL_law_945 rfl rfl ?_
                                                  refine V_iload_n C 3 dL_law_946 rfl rfl ?_
                                                  refine V_iconst C dL_law_947 kc_i_2 ?_
                                                  refine V_iadd C dL_law_948 ?_
                                                  obtain ⟨g281, h⟩ := gdt h
                                                  refine V_sld C Z.1 Z.2.1 Z.2.2.1 g281 dL_law_949 ?_
                                                  refine V_aload_n C 0 dL_law_950 rfl rfl ?_
                                                  refine V_iload_n C 3 dL_law_951 rfl rfl ?_
                                                  refine V_iconst C dL_law_952 kc_i_3 ?_
                                                  refine V_iadd C dL_law_953 ?_
                                                  obtain ⟨g282, h⟩ := gdt h
                                                  refine V_sld C Z.1 Z.2.1 Z.2.2.1 g282 dL_law_954 ?_
                                                  obtain ⟨a284, S285, e283, h⟩ := bnd2_s h
                                                  refine L_callvl C Z.2.2.2.1 cf_X12_gain (c_X12_gain e283) q_ML_L_107 (ws_X12 sk_172) rfl dL_law_955 (by decide) rfl rfl (Nat.le_of_ble_eq_true rfl) ?_
                                                  refine V_lcmp C dL_law_958 ?_
                                                  refine V_if_eq C dL_law_959 rfl (fun c286 => ?_) (fun c286 => ?_)
                                                  · replace h := ifp c286 h
                                                    exact v_L_law_1544 C Z ih h
                                                  · replace h := ifn c286 h
                                                    refine V_iconst C dL_law_962 kc_i_0 ?_
                                                    exact absurd (Option.some.inj h) (by decide)
                                                · replace h := ifn c24 h
                                                  by_cases c25 : ((xs v3.toNatClampNeg) &&& (63 : Int32)) = 22
                                                  · replace h := ifp c25 h
                                                    refine V_table C rfl dL_law_33 (off := 931) (by rw [c25]; decide +kernel) (tgt := 964) rfl ?_
                                                    refine V_aload_n C 1 dL_law_964 rfl rfl ?_
                                                    refine V_aload_n C 0 dL_law_965 rfl rfl ?_
                                                    refine V_iload_n C 3 dL_law_966 rfl rfl ?_
                                                    refine V_iconst C dL_law_967 kc_i_1 ?_
                                                    refine V_iadd C dL_law_968 ?_
                                                    obtain ⟨g287, h⟩ := gdt h
                                                    refine V_sld C Z.1 Z.2.1 Z.2.2.1 g287 dL_law_969 ?_
                                                    obtain ⟨a289, S290, e288, h⟩ := bnd2_s h
                                                    refine L_callvi C Z.2.2.2.1 cf_X11_best (c_X11_best e288) q_ML_L_108 (ws_X11 sk_0) rfl dL_law_970 (by decide) rfl rfl (Nat.le_of_ble_eq_true rfl) ?_
                                                    refine V_aload_n C 2 dL_law_973 rfl rfl ?_
                                                    refine V_aload_n C 0 dL_law_974 rfl rfl ?_
                                                    refine V_iload_n C 3 dL_law_975 rfl rfl ?_
                                                    refine V_iconst C dL_law_976 kc_i_1 ?_
                                                    refine V_iadd C dL_law_977 ?_
                                                    obtain ⟨g291, h⟩ := gdt h
                                                    refine V_sld C Z.1 Z.2.1 Z.2.2.1 g291 dL_law_978 ?_
                                                    obtain ⟨a293, S294, e292, h⟩ := bnd2_s h
                                                    refine L_callvi C Z.2.2.2.1 cf_X12_best (c_X12_best e292) q_ML_L_111 (ws_X12 sk_172) rfl dL_law_979 (by decide) rfl rfl (Nat.le_of_ble_eq_true rfl) ?_
                                                    refine V_icmp_eq C dL_law_982 rfl (fun c295 => ?_) (fun c295 => ?_)
                                                    · replace h := ifp c295 h
                                                      exact v_L_law_1544 C Z ih h
                                                    · replace h := ifn c295 h
                                                      refine V_iconst C dL_law_985 kc_i_0 ?_
                                                      exact absurd (Option.some.inj h) (by decide)
                                                  · replace h := ifn c25 h
                                                    by_cases c26 : ((xs v3.toNatClampNeg) &&& (63 : Int32)) = 23
                                                    · replace h := ifp c26 h
                                                      refine V_table C rfl dL_law_33 (off := 954) (by rw [c26]; decide +kernel) (tgt := 987) rfl ?_
                                                      refine V_aload_n C 1 dL_law_987 rfl rfl ?_
                                                      refine V_aload_n C 0 dL_law_988 rfl rfl ?_
                                                      refine V_iload_n C 3 dL_law_989 rfl rfl ?_
                                                      refine V_iconst C dL_law_990 kc_i_1 ?_
                                                      refine V_iadd C dL_law_991 ?_
                                                      obtain ⟨g296, h⟩ := gdt h
                                                      refine V_sld C Z.1 Z.2.1 Z.2.2.1 g296 dL_law_992 ?_
                                                      obtain ⟨a298, S299, e297, h⟩ := bnd2_s h
                                                      refine L_callvi C Z.2.2.2.1 cf_X11_right (c_X11_right e297) q_ML_L_112 (ws_X11 sk_0) rfl dL_law_993 (by decide) rfl rfl (Nat.le_of_ble_eq_true rfl) ?_
                                                      refine V_aload_n C 2 dL_law_996 rfl rfl ?_
                                                      refine V_aload_n C 0 dL_law_997 rfl rfl ?_
                                                      refine V_iload_n C 3 dL_law_998 rfl rfl ?_
                                                      refine V_iconst C dL_law_999 kc_i_1 ?_
                                                      refine V_iadd C dL_law_1000 ?_
                                                      obtain ⟨g300, h⟩ := gdt h
                                                      refine V_sld C Z.1 Z.2.1 Z.2.2.1 g300 dL_law_1001 ?_
                                                      obtain ⟨a302, S303, e301, h⟩ := bnd2_s h
                                                      refine L_callvi C Z.2.2.2.1 cf_X12_right (c_X12_right e301) q_ML_L_115 (ws_X12 sk_172) rfl dL_law_1002 (by decide) rfl rfl (Nat.le_of_ble_eq_true rfl) ?_
                                                      refine V_icmp_eq C dL_law_1005 rfl (fun c304 => ?_) (fun c304 => ?_)
                                                      · replace h := ifp c304 h
                                                        exact v_L_law_1544 C Z ih h
                                                      · replace h := ifn c304 h
                                                        refine V_iconst C dL_law_1008 kc_i_0 ?_
                                                        exact absurd (Option.some.inj h) (by decide)
                                                    · replace h := ifn c26 h
                                                      by_cases c27 : ((xs v3.toNatClampNeg) &&& (63 : Int32)) = 24
                                                      · replace h := ifp c27 h
                                                        refine V_table C rfl dL_law_33 (off := 977) (by rw [c27]; decide +kernel) (tgt := 1010) rfl ?_
                                                        refine V_aload_n C 1 dL_law_1010 rfl rfl ?_
                                                        refine V_aload_n C 0 dL_law_1011 rfl rfl ?_
                                                        refine V_iload_n C 3 dL_law_1012 rfl rfl ?_
                                                        refine V_iconst C dL_law_1013 kc_i_1 ?_
                                                        refine V_iadd C dL_law_1014 ?_
                                                        obtain ⟨g305, h⟩ := gdt h
                                                        refine V_sld C Z.1 Z.2.1 Z.2.2.1 g305 dL_law_1015 ?_
                                                        obtain ⟨a307, S308, e306, h⟩ := bnd2_s h
                                                        refine L_callvi C Z.2.2.2.1 cf_X11_town (c_X11_town e306) q_ML_L_116 (ws_X11 sk_0) rfl dL_law_1016 (by decide) rfl rfl (Nat.le_of_ble_eq_true rfl) ?_
                                                        refine V_aload_n C 2 dL_law_1019 rfl rfl ?_
                                                        refine V_aload_n C 0 dL_law_1020 rfl rfl ?_
                                                        refine V_iload_n C 3 dL_law_1021 rfl rfl ?_
                                                        refine V_iconst C dL_law_1022 kc_i_1 ?_
                                                        refine V_iadd C dL_law_1023 ?_
                                                        obtain ⟨g309, h⟩ := gdt h
                                                        refine V_sld C Z.1 Z.2.1 Z.2.2.1 g309 dL_law_1024 ?_
                                                        obtain ⟨a311, S312, e310, h⟩ := bnd2_s h
                                                        refine L_callvi C Z.2.2.2.1 cf_X12_town (c_X12_town e310) q_ML_L_119 (ws_X12 sk_172) rfl dL_law_1025 (by decide) rfl rfl (Nat.le_of_ble_eq_true rfl) ?_
                                                        refine V_icmp_eq C dL_law_1028 rfl (fun c313 => ?_) (fun c313 => ?_)
                                                        · replace h := ifp c313 h
                                                          exact v_L_law_1544 C Z ih h
                                                        · replace h := ifn c313 h
                                                          refine V_iconst C dL_law_1031 kc_i_0 ?_
                                                          exact absurd (Option.some.inj h) (by decide)
                                                      · replace h := ifn c27 h
                                                        by_cases c28 : ((xs v3.toNatClampNeg) &&& (63 : Int32)) = 25
                                                        · replace h := ifp c28 h
                                                          refine V_table C rfl dL_law_33 (off := 1000) (by rw [c28]; decide +kernel) (tgt := 1033) rfl ?_
                                                          refine V_aload_n C 1 dL_law_1033 rfl rfl ?_
                                                          refine V_aload_n C 0 dL_law_1034 rfl rfl ?_
                                                          refine V_iload_n C 3 dL_law_1035 rfl rfl ?_
                                                          refine V_iconst C dL_law_1036 kc_i_1 ?_
                                                          refine V_iadd C dL_law_1037 ?_
                                                          obtain ⟨g314, h⟩ := gdt h
                                                          refine V_sld C Z.1 Z.2.1 Z.2.2.1 g314 dL_law_1038 ?_
                                                          refine V_aload_n C 0 dL_law_1039 rfl rfl ?_
                                                          refine V_iload_n C 3 dL_law_1040 rfl rfl ?_
                                                          refine V_iconst C dL_law_1041 kc_i_2 ?_
                                                          refine V_iadd C dL_law_1042 ?_
                                                          obtain ⟨g315, h⟩ := gdt h
                                                          refine V_sld C Z.1 Z.2.1 Z.2.2.1 g315 dL_law_1043 ?_
                                                          obtain ⟨a317, S318, e316, h⟩ := bnd2_s h
                                                          refine L_callvi C Z.2.2.2.1 cf_X11_firm (c_X11_firm e316) q_ML_L_120 (ws_X11 sk_0) rfl dL_law_1044 (by decide) rfl rfl (Nat.le_of_ble_eq_true rfl) ?_
                                                          refine V_aload_n C 2 dL_law_1047 rfl rfl ?_
                                                          refine V_aload_n C 0 dL_law_1048 rfl rfl ?_
                                                          refine V_iload_n C 3 dL_law_1049 rfl rfl ?_
                                                          refine V_iconst C dL_law_1050 kc_i_1 ?_
                                                          refine V_iadd C dL_law_1051 ?_
                                                          obtain ⟨g319, h⟩ := gdt h
                                                          refine V_sld C Z.1 Z.2.1 Z.2.2.1 g319 dL_law_1052 ?_
                                                          refine V_aload_n C 0 dL_law_1053 rfl rfl ?_
                                                          refine V_iload_n C 3 dL_law_1054 rfl rfl ?_
                                                          refine V_iconst C dL_law_1055 kc_i_2 ?_
                                                          refine V_iadd C dL_law_1056 ?_
                                                          obtain ⟨g320, h⟩ := gdt h
                                                          refine V_sld C Z.1 Z.2.1 Z.2.2.1 g320 dL_law_1057 ?_
                                                          obtain ⟨a322, S323, e321, h⟩ := bnd2_s h
                                                          refine L_callvi C Z.2.2.2.1 cf_X12_firm (c_X12_firm e321) q_ML_L_123 (ws_X12 sk_172) rfl dL_law_1058 (by decide) rfl rfl (Nat.le_of_ble_eq_true rfl) ?_
                                                          refine V_icmp_eq C dL_law_1061 rfl (fun c324 => ?_) (fun c324 => ?_)
                                                          · replace h := ifp c324 h
                                                            exact v_L_law_1544 C Z ih h
                                                          · replace h := ifn c324 h
                                                            refine V_iconst C dL_law_1064 kc_i_0 ?_
                                                            exact absurd (Option.some.inj h) (by decide)
                                                        · replace h := ifn c28 h
                                                          by_cases c29 : ((xs v3.toNatClampNeg) &&& (63 : Int32)) = 26
                                                          · replace h := ifp c29 h
                                                            refine V_table C rfl dL_law_33 (off := 1033) (by rw [c29]; decide +kernel) (tgt := 1066) rfl ?_
                                                            refine V_aload_n C 1 dL_law_1066 rfl rfl ?_
                                                            refine V_aload_n C 0 dL_law_1067 rfl rfl ?_
                                                            refine V_iload_n C 3 dL_law_1068 rfl rfl ?_
                                                            refine V_iconst C dL_law_1069 kc_i_1 ?_
                                                            refine V_iadd C dL_law_1070 ?_
                                                            obtain ⟨g325, h⟩ := gdt h
                                                            refine V_sld C Z.1 Z.2.1 Z.2.2.1 g325 dL_law_1071 ?_
                                                            refine V_aload_n C 0 dL_law_1072 rfl rfl ?_
                                                            refine V_iload_n C 3 dL_law_1073 rfl rfl ?_
                                                            refine V_iconst C dL_law_1074 kc_i_2 ?_
                                                            refine V_iadd C dL_law_1075 ?_
                                                            obtain ⟨g326, h⟩ := gdt h
                                                            refine V_sld C Z.1 Z.2.1 Z.2.2.1 g326 dL_law_1076 ?_
                                                            obtain ⟨a328, S329, e327, h⟩ := bnd2_s h
                                                            refine L_callvi C Z.2.2.2.1 cf_X11_then (c_X11_then e327) q_ML_L_124 (ws_X11 sk_0) rfl dL_law_1077 (by decide) rfl rfl (Nat.le_of_ble_eq_true rfl) ?_
                                                            refine V_aload_n C 2 dL_law_1080 rfl rfl ?_
                                                            refine V_aload_n C 0 dL_law_1081 rfl rfl ?_
                                                            refine V_iload_n C 3 dL_law_1082 rfl rfl ?_
                                                            refine V_iconst C dL_law_1083 kc_i_1 ?_
                                                            refine V_iadd C dL_law_1084 ?_
                                                            obtain ⟨g330, h⟩ := gdt h
                                                            refine V_sld C Z.1 Z.2.1 Z.2.2.1 g330 dL_law_1085 ?_
                                                            refine V_aload_n C 0 dL_law_1086 rfl rfl ?_
                                                            refine V_iload_n C 3 dL_law_1087 rfl rfl ?_
                                                            refine V_iconst C dL_law_1088 kc_i_2 ?_
                                                            refine V_iadd C dL_law_1089 ?_
                                                            obtain ⟨g331, h⟩ := gdt h
                                                            refine V_sld C Z.1 Z.2.1 Z.2.2.1 g331 dL_law_1090 ?_
                                                            obtain ⟨a333, S334, e332, h⟩ := bnd2_s h
                                                            refine L_callvi C Z.2.2.2.1 cf_X12_then (c_X12_then e332) q_ML_L_127 (ws_X12 sk_172) rfl dL_law_1091 (by decide) rfl rfl (Nat.le_of_ble_eq_true rfl) ?_
                                                            refine V_icmp_eq C dL_law_1094 rfl (fun c335 => ?_) (fun c335 => ?_)
                                                            · replace h := ifp c335 h
                                                              exact v_L_law_1544 C Z ih h
                                                            · replace h := ifn c335 h
                                                              refine V_iconst C dL_law_1097 kc_i_0 ?_
                                                              exact absurd (Option.some.inj h) (by decide)
                                                          · replace h := ifn c29 h
                                                            by_cases c30 : ((xs v3.toNatClampNeg) &&& (63 : Int32)) = 27
                                                            · replace h := ifp c30 h
                                                              refine V_table C rfl dL_law_33 (off := 1066) (by rw [c30]; decide +kernel) (tgt := 1099) rfl ?_
                                                              refine V_aload_n C 1 dL_law_1099 rfl rfl ?_
                                                              refine V_aload_n C 0 dL_law_1100 rfl rfl ?_
                                                              refine V_iload_n C 3 dL_law_1101 rfl rfl ?_
                                                              refine V_iconst C dL_law_1102 kc_i_1 ?_
                                                              refine V_iadd C dL_law_1103 ?_
                                                              obtain ⟨g336, h⟩ := gdt h
                                                              refine V_sld C Z.1 Z.2.1 Z.2.2.1 g336 dL_law_1104 ?_
                                                              refine V_aload_n C 0 dL_law_1105 rfl rfl ?_
                                                              refine V_iload_n C 3 dL_law_1106 rfl rfl ?_
                                                              refine V_iconst C dL_law_1107 kc_i_2 ?_
                                                              refine V_iadd C dL_law_1108 ?_
                                                              obtain ⟨g337, h⟩ := gdt h
                                                              refine V_sld C Z.1 Z.2.1 Z.2.2.1 g337 dL_law_1109 ?_
                                                              obtain ⟨a339, S340, e338, h⟩ := bnd2_s h
                                                              refine L_callvi C Z.2.2.2.1 cf_X11_whose (c_X11_whose e338) q_ML_L_128 (ws_X11 sk_0) rfl dL_law_1110 (by decide) rfl rfl (Nat.le_of_ble_eq_true rfl) ?_
                                                              refine V_aload_n C 2 dL_law_1113 rfl rfl ?_
                                                              refine V_aload_n C 0 dL_law_1114 rfl rfl ?_
                                                              refine V_iload_n C 3 dL_law_1115 rfl rfl ?_
                                                              refine V_iconst C dL_law_1116 kc_i_1 ?_
                                                              refine V_iadd C dL_law_1117 ?_
                                                              obtain ⟨g341, h⟩ := gdt h
                                                              refine V_sld C Z.1 Z.2.1 Z.2.2.1 g341 dL_law_1118 ?_
                                                              refine V_aload_n C 0 dL_law_1119 rfl rfl ?_
                                                              refine V_iload_n C 3 dL_law_1120 rfl rfl ?_
                                                              refine V_iconst C dL_law_1121 kc_i_2 ?_
                                                              refine V_iadd C dL_law_1122 ?_
                                                              obtain ⟨g342, h⟩ := gdt h
                                                              refine V_sld C Z.1 Z.2.1 Z.2.2.1 g342 dL_law_1123 ?_
                                                              obtain ⟨a344, S345, e343, h⟩ := bnd2_s h
                                                              refine L_callvi C Z.2.2.2.1 cf_X12_whose (c_X12_whose e343) q_ML_L_131 (ws_X12 sk_172) rfl dL_law_1124 (by decide) rfl rfl (Nat.le_of_ble_eq_true rfl) ?_
                                                              refine V_icmp_eq C dL_law_1127 rfl (fun c346 => ?_) (fun c346 => ?_)
                                                              · replace h := ifp c346 h
                                                                exact v_L_law_1544 C Z ih h
                                                              · replace h := ifn c346 h
                                                                refine V_iconst C dL_law_1130 kc_i_0 ?_
                                                                exact absurd (Option.some.inj h) (by decide)
                                                            · replace h := ifn c30 h
                                                              by_cases c31 : ((xs v3.toNatClampNeg) &&& (63 : Int32)) = 28
                                                              · replace h := ifp c31 h
                                                                refine V_table C rfl dL_law_33 (off := 1099) (by rw [c31]; decide +kernel) (tgt := 1132) rfl ?_
                                                                refine V_aload_n C 1 dL_law_1132 rfl rfl ?_
                                                                refine V_aload_n C 0 dL_law_1133 rfl rfl ?_
                                                                refine V_iload_n C 3 dL_law_1134 rfl rfl ?_
                                                                refine V_iconst C dL_law_1135 kc_i_1 ?_
                                                                refine V_iadd C dL_law_1136 ?_
                                                                obtain ⟨g347, h⟩ := gdt h
                                                                refine V_sld C Z.1 Z.2.1 Z.2.2.1 g347 dL_law_1137 ?_
                                                                obtain ⟨a349, S350, e348, h⟩ := bnd2_s h
                                                                refine L_callvi C Z.2.2.2.1 cf_X11_part (c_X11_part e348) q_ML_L_132 (ws_X11 sk_0) rfl dL_law_1138 (by decide) rfl rfl (Nat.le_of_ble_eq_true rfl) ?_
                                                                refine V_aload_n C 2 dL_law_1141 rfl rfl ?_
                                                                refine V_aload_n C 0 dL_law_1142 rfl rfl ?_
                                                                refine V_iload_n C 3 dL_law_1143 rfl rfl ?_
                                                                refine V_iconst C dL_law_1144 kc_i_1 ?_
                                                                refine V_iadd C dL_law_1145 ?_
                                                                obtain ⟨g351, h⟩ := gdt h
                                                                refine V_sld C Z.1 Z.2.1 Z.2.2.1 g351 dL_law_1146 ?_
                                                                obtain ⟨a353, S354, e352, h⟩ := bnd2_s h
                                                                refine L_callvi C Z.2.2.2.1 cf_X12_part (c_X12_part e352) q_ML_L_135 (ws_X12 sk_172) rfl dL_law_1147 (by decide) rfl rfl (Nat.le_of_ble_eq_true rfl) ?_
                                                                refine V_icmp_eq C dL_law_1150 rfl (fun c355 => ?_) (fun c355 => ?_)
                                                                · replace h := ifp c355 h
                                                                  exact v_L_law_1544 C Z ih h
                                                                · replace h := ifn c355 h
                                                                  refine V_iconst C dL_law_1153 kc_i_0 ?_
                                                                  exact absurd (Option.some.inj h) (by decide)
                                                              · replace h := ifn c31 h
                                                                by_cases c32 : ((xs v3.toNatClampNeg) &&& (63 : Int32)) = 29
                                                                · replace h := ifp c32 h
                                                                  refine V_table C rfl dL_law_33 (off := 1122) (by rw [c32]; decide +kernel) (tgt := 1155) rfl ?_
                                                                  refine V_aload_n C 1 dL_law_1155 rfl rfl ?_
                                                                  refine V_aload_n C 0 dL_law_1156 rfl rfl ?_
                                                                  refine V_iload_n C 3 dL_law_1157 rfl rfl ?_
                                                                  refine V_iconst C dL_law_1158 kc_i_1 ?_
                                                                  refine V_iadd C dL_law_1159 ?_
                                                                  obtain ⟨g356, h⟩ := gdt h
                                                                  refine V_sld C Z.1 Z.2.1 Z.2.2.1 g356 dL_law_1160 ?_
                                                                  refine V_aload_n C 0 dL_law_1161 rfl rfl ?_
                                                                  refine V_iload_n C 3 dL_law_1162 rfl rfl ?_
                                                                  refine V_iconst C dL_law_1163 kc_i_2 ?_
                                                                  refine V_iadd C dL_law_1164 ?_
                                                                  obtain ⟨g357, h⟩ := gdt h
                                                                  refine V_sld C Z.1 Z.2.1 Z.2.2.1 g357 dL_law_1165 ?_
                                                                  refine V_aload_n C 0 dL_law_1166 rfl rfl ?_
                                                                  refine V_iload_n C 3 dL_law_1167 rfl rfl ?_
                                                                  refine V_iconst C dL_law_1168 kc_i_3 ?_
                                                                  refine V_iadd C dL_law_1169 ?_
                                                                  obtain ⟨g358, h⟩ := gdt h
                                                                  refine V_sld C Z.1 Z.2.1 Z.2.2.1 g358 dL_law_1170 ?_
                                                                  obtain ⟨a360, S361, e359, h⟩ := bnd2_s h
                                                                  refine L_callvi C Z.2.2.2.1 cf_X11_voice (c_X11_voice e359) q_ML_L_136 (ws_X11 sk_0) rfl dL_law_1171 (by decide) rfl rfl (Nat.le_of_ble_eq_true rfl) ?_
                                                                  refine V_aload_n C 2 dL_law_1174 rfl rfl ?_
                                                                  refine V_aload_n C 0 dL_law_1175 rfl rfl ?_
                                                                  refine V_iload_n C 3 dL_law_1176 rfl rfl ?_
                                                                  refine V_iconst C dL_law_1177 kc_i_1 ?_
                                                                  refine V_iadd C dL_law_1178 ?_
                                                                  obtain ⟨g362, h⟩ := gdt h
                                                                  refine V_sld C Z.1 Z.2.1 Z.2.2.1 g362 dL_law_1179 ?_
                                                                  refine V_aload_n C 0 dL_law_1180 rfl rfl ?_
                                                                  refine V_iload_n C 3 dL_law_1181 rfl rfl ?_
                                                                  refine V_iconst C dL_law_1182 kc_i_2 ?_
                                                                  refine V_iadd C dL_law_1183 ?_
                                                                  obtain ⟨g363, h⟩ := gdt h
                                                                  refine V_sld C Z.1 Z.2.1 Z.2.2.1 g363 dL_law_1184 ?_
                                                                  refine V_aload_n C 0 dL_law_1185 rfl rfl ?_
                                                                  refine V_iload_n C 3 dL_law_1186 rfl rfl ?_
                                                                  refine V_iconst C dL_law_1187 kc_i_3 ?_
                                                                  refine V_iadd C dL_law_1188 ?_
                                                                  obtain ⟨g364, h⟩ := gdt h
                                                                  refine V_sld C Z.1 Z.2.1 Z.2.2.1 g364 dL_law_1189 ?_
                                                                  obtain ⟨a366, S367, e365, h⟩ := bnd2_s h
                                                                  refine L_callvi C Z.2.2.2.1 cf_X12_voice (c_X12_voice e365) q_ML_L_139 (ws_X12 sk_172) rfl dL_law_1190 (by decide) rfl rfl (Nat.le_of_ble_eq_true rfl) ?_
                                                                  refine V_icmp_eq C dL_law_1193 rfl (fun c368 => ?_) (fun c368 => ?_)
                                                                  · replace h := ifp c368 h
                                                                    exact v_L_law_1544 C Z ih h
                                                                  · replace h := ifn c368 h
                                                                    refine V_iconst C dL_law_1196 kc_i_0 ?_
                                                                    exact absurd (Option.some.inj h) (by decide)
                                                                · replace h := ifn c32 h
                                                                  by_cases c33 : ((xs v3.toNatClampNeg) &&& (63 : Int32)) = 30
                                                                  · replace h := ifp c33 h
                                                                    refine V_table C rfl dL_law_33 (off := 1165) (by rw [c33]; decide +kernel) (tgt := 1198) rfl ?_
                                                                    refine V_aload_n C 1 dL_law_1198 rfl rfl ?_
                                                                    refine V_aload_n C 0 dL_law_1199 rfl rfl ?_
                                                                    refine V_iload_n C 3 dL_law_1200 rfl rfl ?_
                                                                    refine V_iconst C dL_law_1201 kc_i_1 ?_
                                                                    refine V_iadd C dL_law_1202 ?_
                                                                    obtain ⟨g369, h⟩ := gdt h
                                                                    refine V_sld C Z.1 Z.2.1 Z.2.2.1 g369 dL_law_1203 ?_
                                                                    obtain ⟨a371, S372, e370, h⟩ := bnd2_s h
                                                                    refine L_callvi C Z.2.2.2.1 cf_X11_body (c_X11_body e370) q_ML_L_140 (ws_X11 sk_0) rfl dL_law_1204 (by decide) rfl rfl (Nat.le_of_ble_eq_true rfl) ?_
                                                                    refine V_aload_n C 2 dL_law_1207 rfl rfl ?_
                                                                    refine V_aload_n C 0 dL_law_1208 rfl rfl ?_
                                                                    refine V_iload_n C 3 dL_law_1209 rfl rfl ?_
                                                                    refine V_iconst C dL_law_1210 kc_i_1 ?_
                                                                    refine V_iadd C dL_law_1211 ?_
                                                                    obtain ⟨g373, h⟩ := gdt h
                                                                    refine V_sld C Z.1 Z.2.1 Z.2.2.1 g373 dL_law_1212 ?_
                                                                    obtain ⟨a375, S376, e374, h⟩ := bnd2_s h
                                                                    refine L_callvi C Z.2.2.2.1 cf_X12_body (c_X12_body e374) q_ML_L_143 (ws_X12 sk_172) rfl dL_law_1213 (by decide) rfl rfl (Nat.le_of_ble_eq_true rfl) ?_
                                                                    refine V_icmp_eq C dL_law_1216 rfl (fun c377 => ?_) (fun c377 => ?_)
                                                                    · replace h := ifp c377 h
                                                                      exact v_L_law_1544 C Z ih h
                                                                    · replace h := ifn c377 h
                                                                      refine V_iconst C dL_law_1219 kc_i_0 ?_
                                                                      exact absurd (Option.some.inj h) (by decide)
                                                                  · replace h := ifn c33 h
                                                                    by_cases c34 : ((xs v3.toNatClampNeg) &&& (63 : Int32)) = 31
                                                                    · replace h := ifp c34 h
                                                                      refine V_table C rfl dL_law_33 (off := 1188) (by rw [c34]; decide +kernel) (tgt := 1221) rfl ?_
                                                                      refine V_aload_n C 1 dL_law_1221 rfl rfl ?_
                                                                      refine V_aload_n C 0 dL_law_1222 rfl rfl ?_
                                                                      refine V_iload_n C 3 dL_law_1223 rfl rfl ?_
                                                                      refine V_iconst C dL_law_1224 kc_i_1 ?_
                                                                      refine V_iadd C dL_law_1225 ?_
                                                                      obtain ⟨g378, h⟩ := gdt h
                                                                      refine V_sld C Z.1 Z.2.1 Z.2.2.1 g378 dL_law_1226 ?_
                                                                      refine V_aload_n C 0 dL_law_1227 rfl rfl ?_
                                                                      refine V_iload_n C 3 dL_law_1228 rfl rfl ?_
                                                                      refine V_iconst C dL_law_1229 kc_i_2 ?_
                                                                      refine V_iadd C dL_law_1230 ?_
                                                                      obtain ⟨g379, h⟩ := gdt h
                                                                      refine V_sld C Z.1 Z.2.1 Z.2.2.1 g379 dL_law_1231 ?_
                                                                      refine V_aload_n C 0 dL_law_1232 rfl rfl ?_
                                                                      refine V_iload_n C 3 dL_law_1233 rfl rfl ?_
                                                                      refine V_iconst C dL_law_1234 kc_i_3 ?_
                                                                      refine V_iadd C dL_law_1235 ?_
                                                                      obtain ⟨g380, h⟩ := gdt h
                                                                      refine V_sld C Z.1 Z.2.1 Z.2.2.1 g380 dL_law_1236 ?_
                                                                      obtain ⟨a382, S383, e381, h⟩ := bnd2_s h
                                                                      refine L_callvi C Z.2.2.2.1 cf_X11_sheet (c_X11_sheet e381) q_ML_L_144 (ws_X11 sk_0) rfl dL_law_1237 (by decide) rfl rfl (Nat.le_of_ble_eq_true rfl) ?_
                                                                      refine V_aload_n C 2 dL_law_1240 rfl rfl ?_
                                                                      refine V_aload_n C 0 dL_law_1241 rfl rfl ?_
                                                                      refine V_iload_n C 3 dL_law_1242 rfl rfl ?_
                                                                      refine V_iconst C dL_law_1243 kc_i_1 ?_
                                                                      refine V_iadd C dL_law_1244 ?_
                                                                      obtain ⟨g384, h⟩ := gdt h
                                                                      refine V_sld C Z.1 Z.2.1 Z.2.2.1 g384 dL_law_1245 ?_
                                                                      refine V_aload_n C 0 dL_law_1246 rfl rfl ?_
                                                                      refine V_iload_n C 3 dL_law_1247 rfl rfl ?_
                                                                      refine V_iconst C dL_law_1248 kc_i_2 ?_
                                                                      refine V_iadd C dL_law_1249 ?_
                                                                      obtain ⟨g385, h⟩ := gdt h
                                                                      refine V_sld C Z.1 Z.2.1 Z.2.2.1 g385 dL_law_1250 ?_
                                                                      refine V_aload_n C 0 dL_law_1251 rfl rfl ?_
                                                                      refine V_iload_n C 3 dL_law_1252 rfl rfl ?_
                                                                      refine V_iconst C dL_law_1253 kc_i_3 ?_
                                                                      refine V_iadd C dL_law_1254 ?_
                                                                      obtain ⟨g386, h⟩ := gdt h
                                                                      refine V_sld C Z.1 Z.2.1 Z.2.2.1 g386 dL_law_1255 ?_
                                                                      obtain ⟨a388, S389, e387, h⟩ := bnd2_s h
                                                                      refine L_callvi C Z.2.2.2.1 cf_X12_sheet (c_X12_sheet e387) q_ML_L_147 (ws_X12 sk_172) rfl dL_law_1256 (by decide) rfl rfl (Nat.le_of_ble_eq_true rfl) ?_
                                                                      refine V_icmp_eq C dL_law_1259 rfl (fun c390 => ?_) (fun c390 => ?_)
                                                                      · replace h := ifp c390 h
                                                                        exact v_L_law_1544 C Z ih h
                                                                      · replace h := ifn c390 h
                                                                        refine V_iconst C dL_law_1262 kc_i_0 ?_
                                                                        exact absurd (Option.some.inj h) (by decide)
                                                                    · replace h := ifn c34 h
                                                                      by_cases c35 : ((xs v3.toNatClampNeg) &&& (63 : Int32)) = 32
                                                                      · replace h := ifp c35 h
                                                                        refine V_table C rfl dL_law_33 (off := 1231) (by rw [c35]; decide +kernel) (tgt := 1264) rfl ?_
                                                                        refine V_aload_n C 1 dL_law_1264 rfl rfl ?_
                                                                        refine V_aload_n C 0 dL_law_1265 rfl rfl ?_
                                                                        refine V_iload_n C 3 dL_law_1266 rfl rfl ?_
                                                                        refine V_iconst C dL_law_1267 kc_i_1 ?_
                                                                        refine V_iadd C dL_law_1268 ?_
                                                                        obtain ⟨g391, h⟩ := gdt h
                                                                        refine V_sld C Z.1 Z.2.1 Z.2.2.1 g391 dL_law_1269 ?_
                                                                        refine V_aload_n C 0 dL_law_1270 rfl rfl ?_
                                                                        refine V_iload_n C 3 dL_law_1271 rfl rfl ?_
                                                                        refine V_iconst C dL_law_1272 kc_i_2 ?_
                                                                        refine V_iadd C dL_law_1273 ?_
                                                                        obtain ⟨g392, h⟩ := gdt h
                                                                        refine V_sld C Z.1 Z.2.1 Z.2.2.1 g392 dL_law_1274 ?_
                                                                        refine V_aload_n C 0 dL_law_1275 rfl rfl ?_
                                                                        refine V_iload_n C 3 dL_law_1276 rfl rfl ?_
                                                                        refine V_iconst C dL_law_1277 kc_i_3 ?_
                                                                        refine V_iadd C dL_law_1278 ?_
                                                                        obtain ⟨g393, h⟩ := gdt h
                                                                        refine V_sld C Z.1 Z.2.1 Z.2.2.1 g393 dL_law_1279 ?_
                                                                        obtain ⟨a395, S396, e394, h⟩ := bnd2_s h
                                                                        refine L_callvi C Z.2.2.2.1 cf_X11_put (c_X11_put e394) q_ML_L_148 (ws_X11 sk_0) rfl dL_law_1280 (by decide) rfl rfl (Nat.le_of_ble_eq_true rfl) ?_
                                                                        refine V_aload_n C 2 dL_law_1283 rfl rfl ?_
                                                                        refine V_aload_n C 0 dL_law_1284 rfl rfl ?_
                                                                        refine V_iload_n C 3 dL_law_1285 rfl rfl ?_
                                                                        refine V_iconst C dL_law_1286 kc_i_1 ?_
                                                                        refine V_iadd C dL_law_1287 ?_
                                                                        obtain ⟨g397, h⟩ := gdt h
                                                                        refine V_sld C Z.1 Z.2.1 Z.2.2.1 g397 dL_law_1288 ?_
                                                                        refine V_aload_n C 0 dL_law_1289 rfl rfl ?_
                                                                        refine V_iload_n C 3 dL_law_1290 rfl rfl ?_
                                                                        refine V_iconst C dL_law_1291 kc_i_2 ?_
                                                                        refine V_iadd C dL_law_1292 ?_
                                                                        obtain ⟨g398, h⟩ := gdt h
                                                                        refine V_sld C Z.1 Z.2.1 Z.2.2.1 g398 dL_law_1293 ?_
                                                                        refine V_aload_n C 0 dL_law_1294 rfl rfl ?_
                                                                        refine V_iload_n C 3 dL_law_1295 rfl rfl ?_
                                                                        refine V_iconst C dL_law_1296 kc_i_3 ?_
                                                                        refine V_iadd C dL_law_1297 ?_
                                                                        obtain ⟨g399, h⟩ := gdt h
                                                                        refine V_sld C Z.1 Z.2.1 Z.2.2.1 g399 dL_law_1298 ?_
                                                                        obtain ⟨a401, S402, e400, h⟩ := bnd2_s h
                                                                        refine L_callvi C Z.2.2.2.1 cf_X12_put (c_X12_put e400) q_ML_L_151 (ws_X12 sk_172) rfl dL_law_1299 (by decide) rfl rfl (Nat.le_of_ble_eq_true rfl) ?_
                                                                        refine V_icmp_eq C dL_law_1302 rfl (fun c403 => ?_) (fun c403 => ?_)
                                                                        · replace h := ifp c403 h
                                                                          exact v_L_law_1544 C Z ih h
                                                                        · replace h := ifn c403 h
                                                                          refine V_iconst C dL_law_1305 kc_i_0 ?_
                                                                          exact absurd (Option.some.inj h) (by decide)
                                                                      · replace h := ifn c35 h
                                                                        by_cases c36 : ((xs v3.toNatClampNeg) &&& (63 : Int32)) = 33
                                                                        · replace h := ifp c36 h
                                                                          refine V_table C rfl dL_law_33 (off := 1274) (by rw [c36]; decide +kernel) (tgt := 1307) rfl ?_
                                                                          refine V_aload_n C 1 dL_law_1307 rfl rfl ?_
                                                                          refine V_aload_n C 0 dL_law_1308 rfl rfl ?_
                                                                          refine V_iload_n C 3 dL_law_1309 rfl rfl ?_
                                                                          refine V_iconst C dL_law_1310 kc_i_1 ?_
                                                                          refine V_iadd C dL_law_1311 ?_
                                                                          obtain ⟨g404, h⟩ := gdt h
                                                                          refine V_sld C Z.1 Z.2.1 Z.2.2.1 g404 dL_law_1312 ?_
                                                                          refine V_aload_n C 0 dL_law_1313 rfl rfl ?_
                                                                          refine V_iload_n C 3 dL_law_1314 rfl rfl ?_
                                                                          refine V_iconst C dL_law_1315 kc_i_2 ?_
                                                                          refine V_iadd C dL_law_1316 ?_
                                                                          obtain ⟨g405, h⟩ := gdt h
                                                                          refine V_sld C Z.1 Z.2.1 Z.2.2.1 g405 dL_law_1317 ?_
                                                                          refine V_aload_n C 0 dL_law_1318 rfl rfl ?_
                                                                          refine V_iload_n C 3 dL_law_1319 rfl rfl ?_
                                                                          refine V_iconst C dL_law_1320 kc_i_3 ?_
                                                                          refine V_iadd C dL_law_1321 ?_
                                                                          obtain ⟨g406, h⟩ := gdt h
                                                                          refine V_sld C Z.1 Z.2.1 Z.2.2.1 g406 dL_law_1322 ?_
                                                                          refine V_aload_n C 0 dL_law_1323 rfl rfl ?_
                                                                          refine V_iload_n C 3 dL_law_1324 rfl rfl ?_
                                                                          refine V_iconst C dL_law_1325 kc_i_4 ?_
                                                                          refine V_iadd C dL_law_1326 ?_
                                                                          obtain ⟨g407, h⟩ := gdt h
                                                                          refine V_sld C Z.1 Z.2.1 Z.2.2.1 g407 dL_law_1327 ?_
                                                                          refine V_aload_n C 0 dL_law_1328 rfl rfl ?_
                                                                          refine V_iload_n C 3 dL_law_1329 rfl rfl ?_
                                                                          refine V_iconst C dL_law_1330 kc_i_5 ?_
                                                                          refine V_iadd C dL_law_1331 ?_
                                                                          obtain ⟨g408, h⟩ := gdt h
                                                                          refine V_sld C Z.1 Z.2.1 Z.2.2.1 g408 dL_law_1332 ?_
                                                                          obtain ⟨a410, S411, e409, h⟩ := bnd2_s h
                                                                          refine L_callvi C Z.2.2.2.1 cf_X11_move (c_X11_move e409) q_ML_L_152 (ws_X11 sk_0) rfl dL_law_1333 (by decide) rfl rfl (Nat.le_of_ble_eq_true rfl) ?_
                                                                          refine V_aload_n C 2 dL_law_1336 rfl rfl ?_
                                                                          refine V_aload_n C 0 dL_law_1337 rfl rfl ?_
                                                                          refine V_iload_n C 3 dL_law_1338 rfl rfl ?_
                                                                          refine V_iconst C dL_law_1339 kc_i_1 ?_
                                                                          refine V_iadd C dL_law_1340 ?_
                                                                          obtain ⟨g412, h⟩ := gdt h
                                                                          refine V_sld C Z.1 Z.2.1 Z.2.2.1 g412 dL_law_1341 ?_
                                                                          refine V_aload_n C 0 dL_law_1342 rfl rfl ?_
                                                                          refine V_iload_n C 3 dL_law_1343 rfl rfl ?_
                                                                          refine V_iconst C dL_law_1344 kc_i_2 ?_
                                                                          refine V_iadd C dL_law_1345 ?_
                                                                          obtain ⟨g413, h⟩ := gdt h
                                                                          refine V_sld C Z.1 Z.2.1 Z.2.2.1 g413 dL_law_1346 ?_
                                                                          refine V_aload_n C 0 dL_law_1347 rfl rfl ?_
                                                                          refine V_iload_n C 3 dL_law_1348 rfl rfl ?_
                                                                          refine V_iconst C dL_law_1349 kc_i_3 ?_
                                                                          refine V_iadd C dL_law_1350 ?_
                                                                          obtain ⟨g414, h⟩ := gdt h
                                                                          refine V_sld C Z.1 Z.2.1 Z.2.2.1 g414 dL_law_1351 ?_
                                                                          refine V_aload_n C 0 dL_law_1352 rfl rfl ?_
                                                                          refine V_iload_n C 3 dL_law_1353 rfl rfl ?_
                                                                          refine V_iconst C dL_law_1354 kc_i_4 ?_
                                                                          refine V_iadd C dL_law_1355 ?_
                                                                          obtain ⟨g415, h⟩ := gdt h
                                                                          refine V_sld C Z.1 Z.2.1 Z.2.2.1 g415 dL_law_1356 ?_
                                                                          refine V_aload_n C 0 dL_law_1357 rfl rfl ?_
                                                                          refine V_iload_n C 3 dL_law_1358 rfl rfl ?_
                                                                          refine V_iconst C dL_law_1359 kc_i_5 ?_
                                                                          refine V_iadd C dL_law_1360 ?_
                                                                          obtain ⟨g416, h⟩ := gdt h
                                                                          refine V_sld C Z.1 Z.2.1 Z.2.2.1 g416 dL_law_1361 ?_
                                                                          obtain ⟨a418, S419, e417, h⟩ := bnd2_s h
                                                                          refine L_callvi C Z.2.2.2.1 cf_X12_move (c_X12_move e417) q_ML_L_156 (ws_X12 sk_172) rfl dL_law_1362 (by decide) rfl rfl (Nat.le_of_ble_eq_true rfl) ?_
                                                                          refine V_icmp_eq C dL_law_1365 rfl (fun c420 => ?_) (fun c420 => ?_)
                                                                          · replace h := ifp c420 h
                                                                            exact v_L_law_1544 C Z ih h
                                                                          · replace h := ifn c420 h
                                                                            refine V_iconst C dL_law_1368 kc_i_0 ?_
                                                                            exact absurd (Option.some.inj h) (by decide)
                                                                        · replace h := ifn c36 h
                                                                          by_cases c37 : ((xs v3.toNatClampNeg) &&& (63 : Int32)) = 34
                                                                          · replace h := ifp c37 h
                                                                            refine V_table C rfl dL_law_33 (off := 1337) (by rw [c37]; decide +kernel) (tgt := 1370) rfl ?_
                                                                            refine V_aload_n C 1 dL_law_1370 rfl rfl ?_
                                                                            refine V_aload_n C 0 dL_law_1371 rfl rfl ?_
                                                                            refine V_iload_n C 3 dL_law_1372 rfl rfl ?_
                                                                            refine V_iconst C dL_law_1373 kc_i_1 ?_
                                                                            refine V_iadd C dL_law_1374 ?_
                                                                            obtain ⟨g421, h⟩ := gdt h
                                                                            refine V_sld C Z.1 Z.2.1 Z.2.2.1 g421 dL_law_1375 ?_
                                                                            refine V_aload_n C 0 dL_law_1376 rfl rfl ?_
                                                                            refine V_iload_n C 3 dL_law_1377 rfl rfl ?_
                                                                            refine V_iconst C dL_law_1378 kc_i_2 ?_
                                                                            refine V_iadd C dL_law_1379 ?_
                                                                            obtain ⟨g422, h⟩ := gdt h
                                                                            refine V_sld C Z.1 Z.2.1 Z.2.2.1 g422 dL_law_1380 ?_
                                                                            obtain ⟨a424, S425, e423, h⟩ := bnd2_s h
                                                                            refine L_callvi C Z.2.2.2.1 cf_X11_worths (c_X11_worths e423) q_ML_L_157 (ws_X11 sk_0) rfl dL_law_1381 (by decide) rfl rfl (Nat.le_of_ble_eq_true rfl) ?_
                                                                            refine V_aload_n C 2 dL_law_1384 rfl rfl ?_
                                                                            refine V_aload_n C 0 dL_law_1385 rfl rfl ?_
                                                                            refine V_iload_n C 3 dL_law_1386 rfl rfl ?_
                                                                            refine V_iconst C dL_law_1387 kc_i_1 ?_
                                                                            refine V_iadd C dL_law_1388 ?_
                                                                            obtain ⟨g426, h⟩ := gdt h
                                                                            refine V_sld C Z.1 Z.2.1 Z.2.2.1 g426 dL_law_1389 ?_
                                                                            refine V_aload_n C 0 dL_law_1390 rfl rfl ?_
                                                                            refine V_iload_n C 3 dL_law_1391 rfl rfl ?_
                                                                            refine V_iconst C dL_law_1392 kc_i_2 ?_
                                                                            refine V_iadd C dL_law_1393 ?_
                                                                            obtain ⟨g427, h⟩ := gdt h
                                                                            refine V_sld C Z.1 Z.2.1 Z.2.2.1 g427 dL_law_1394 ?_
                                                                            obtain ⟨a429, S430, e428, h⟩ := bnd2_s h
                                                                            refine L_callvi C Z.2.2.2.1 cf_X12_worths (c_X12_worths e428) q_ML_L_160 (ws_X12 sk_172) rfl dL_law_1395 (by decide) rfl rfl (Nat.le_of_ble_eq_true rfl) ?_
                                                                            refine V_icmp_eq C dL_law_1398 rfl (fun c431 => ?_) (fun c431 => ?_)
                                                                            · replace h := ifp c431 h
                                                                              exact v_L_law_1544 C Z ih h
                                                                            · replace h := ifn c431 h
                                                                              refine V_iconst C dL_law_1401 kc_i_0 ?_
                                                                              exact absurd (Option.some.inj h) (by decide)
                                                                          · replace h := ifn c37 h
                                                                            by_cases c38 : ((xs v3.toNatClampNeg) &&& (63 : Int32)) = 35
                                                                            · replace h := ifp c38 h
                                                                              refine V_table C rfl dL_law_33 (off := 1370) (by rw [c38]; decide +kernel) (tgt := 1403) rfl ?_
                                                                              refine V_aload_n C 1 dL_law_1403 rfl rfl ?_
                                                                              refine V_aload_n C 0 dL_law_1404 rfl rfl ?_
                                                                              refine V_iload_n C 3 dL_law_1405 rfl rfl ?_
                                                                              refine V_iconst C dL_law_1406 kc_i_1 ?_
                                                                              refine V_iadd C dL_law_1407 ?_
                                                                              obtain ⟨g432, h⟩ := gdt h
                                                                              refine V_sld C Z.1 Z.2.1 Z.2.2.1 g432 dL_law_1408 ?_
                                                                              obtain ⟨a434, S435, e433, h⟩ := bnd2_s h
                                                                              refine L_callvi C Z.2.2.2.1 cf_X11_judge (c_X11_judge e433) q_ML_L_161 (ws_X11 sk_0) rfl dL_law_1409 (by decide) rfl rfl (Nat.le_of_ble_eq_true rfl) ?_
                                                                              refine V_aload_n C 2 dL_law_1412 rfl rfl ?_
                                                                              refine V_aload_n C 0 dL_law_1413 rfl rfl ?_
                                                                              refine V_iload_n C 3 dL_law_1414 rfl rfl ?_
                                                                              refine V_iconst C dL_law_1415 kc_i_1 ?_
                                                                              refine V_iadd C dL_law_1416 ?_
                                                                              obtain ⟨g436, h⟩ := gdt h
                                                                              refine V_sld C Z.1 Z.2.1 Z.2.2.1 g436 dL_law_1417 ?_
                                                                              obtain ⟨a438, S439, e437, h⟩ := bnd2_s h
                                                                              refine L_callvi C Z.2.2.2.1 cf_X12_judge (c_X12_judge e437) q_ML_L_164 (ws_X12 sk_172) rfl dL_law_1418 (by decide) rfl rfl (Nat.le_of_ble_eq_true rfl) ?_
                                                                              refine V_icmp_eq C dL_law_1421 rfl (fun c440 => ?_) (fun c440 => ?_)
                                                                              · replace h := ifp c440 h
                                                                                exact v_L_law_1544 C Z ih h
                                                                              · replace h := ifn c440 h
                                                                                refine V_iconst C dL_law_1424 kc_i_0 ?_
                                                                                exact absurd (Option.some.inj h) (by decide)
                                                                            · replace h := ifn c38 h
                                                                              by_cases c39 : ((xs v3.toNatClampNeg) &&& (63 : Int32)) = 36
                                                                              · replace h := ifp c39 h
                                                                                refine V_table C rfl dL_law_33 (off := 1393) (by rw [c39]; decide +kernel) (tgt := 1426) rfl ?_
                                                                                refine V_aload_n C 1 dL_law_1426 rfl rfl ?_
                                                                                obtain ⟨a442, S443, e441, h⟩ := bnd2_s h
                                                                                refine L_callvi C Z.2.2.2.1 cf_X11_image (c_X11_image e441) q_ML_L_165 (ws_X11 sk_0) rfl dL_law_1427 (by decide) rfl rfl (Nat.le_of_ble_eq_true rfl) ?_
                                                                                refine V_aload_n C 2 dL_law_1430 rfl rfl ?_
                                                                                obtain ⟨a445, S446, e444, h⟩ := bnd2_s h
                                                                                refine L_callvi C Z.2.2.2.1 cf_X12_image (c_X12_image e444) q_ML_L_169 (ws_X12 sk_172) rfl dL_law_1431 (by decide) rfl rfl (Nat.le_of_ble_eq_true rfl) ?_
                                                                                refine V_icmp_eq C dL_law_1434 rfl (fun c447 => ?_) (fun c447 => ?_)
                                                                                · replace h := ifp c447 h
                                                                                  exact v_L_law_1544 C Z ih h
                                                                                · replace h := ifn c447 h
                                                                                  refine V_iconst C dL_law_1437 kc_i_0 ?_
                                                                                  exact absurd (Option.some.inj h) (by decide)
                                                                              · replace h := ifn c39 h
                                                                                by_cases c40 : ((xs v3.toNatClampNeg) &&& (63 : Int32)) = 37
                                                                                · replace h := ifp c40 h
                                                                                  refine V_table C rfl dL_law_33 (off := 1406) (by rw [c40]; decide +kernel) (tgt := 1439) rfl ?_
                                                                                  refine V_aload_n C 1 dL_law_1439 rfl rfl ?_
                                                                                  obtain ⟨a449, S450, e448, h⟩ := bnd2_s h
                                                                                  refine L_callvi C Z.2.2.2.1 cf_X11_restore (c_X11_restore e448) q_ML_L_170 (ws_X11 sk_0) rfl dL_law_1440 (by decide) rfl rfl (Nat.le_of_ble_eq_true rfl) ?_
                                                                                  refine V_aload_n C 2 dL_law_1443 rfl rfl ?_
                                                                                  obtain ⟨a452, S453, e451, h⟩ := bnd2_s h
                                                                                  refine L_callvi C Z.2.2.2.1 cf_X12_restore (c_X12_restore e451) q_ML_L_173 (ws_X12 sk_172) rfl dL_law_1444 (by decide) rfl rfl (Nat.le_of_ble_eq_true rfl) ?_
                                                                                  refine V_icmp_eq C dL_law_1447 rfl (fun c454 => ?_) (fun c454 => ?_)
                                                                                  · replace h := ifp c454 h
                                                                                    exact v_L_law_1544 C Z ih h
                                                                                  · replace h := ifn c454 h
                                                                                    refine V_iconst C dL_law_1450 kc_i_0 ?_
                                                                                    exact absurd (Option.some.inj h) (by decide)
                                                                                · replace h := ifn c40 h
                                                                                  by_cases c41 : ((xs v3.toNatClampNeg) &&& (63 : Int32)) = 38
                                                                                  · replace h := ifp c41 h
                                                                                    refine V_table C rfl dL_law_33 (off := 1419) (by rw [c41]; decide +kernel) (tgt := 1452) rfl ?_
                                                                                    refine V_aload_n C 1 dL_law_1452 rfl rfl ?_
                                                                                    refine V_aload_n C 0 dL_law_1453 rfl rfl ?_
                                                                                    refine V_iload_n C 3 dL_law_1454 rfl rfl ?_
                                                                                    refine V_iconst C dL_law_1455 kc_i_1 ?_
                                                                                    refine V_iadd C dL_law_1456 ?_
                                                                                    obtain ⟨g455, h⟩ := gdt h
                                                                                    refine V_sld C Z.1 Z.2.1 Z.2.2.1 g455 dL_law_1457 ?_
                                                                                    obtain ⟨a457, S458, e456, h⟩ := bnd2_s h
                                                                                    refine L_callvi C Z.2.2.2.1 cf_X11_tell (c_X11_tell e456) q_ML_L_174 (ws_X11 sk_0) rfl dL_law_1458 (by decide) rfl rfl (Nat.le_of_ble_eq_true rfl) ?_
                                                                                    refine V_aload_n C 2 dL_law_1461 rfl rfl ?_
                                                                                    refine V_aload_n C 0 dL_law_1462 rfl rfl ?_
                                                                                    refine V_iload_n C 3 dL_law_1463 rfl rfl ?_
                                                                                    refine V_iconst C dL_law_1464 kc_i_1 ?_
                                                                                    refine V_iadd C dL_law_1465 ?_
                                                                                    obtain ⟨g459, h⟩ := gdt h
                                                                                    refine V_sld C Z.1 Z.2.1 Z.2.2.1 g459 dL_law_1466 ?_
                                                                                    obtain ⟨a461, S462, e460, h⟩ := bnd2_s h
                                                                                    refine L_callvi C Z.2.2.2.1 cf_X12_tell (c_X12_tell e460) q_ML_L_177 (ws_X12 sk_172) rfl dL_law_1467 (by decide) rfl rfl (Nat.le_of_ble_eq_true rfl) ?_
                                                                                    refine V_icmp_eq C dL_law_1470 rfl (fun c463 => ?_) (fun c463 => ?_)
                                                                                    · replace h := ifp c463 h
                                                                                      exact v_L_law_1544 C Z ih h
                                                                                    · replace h := ifn c463 h
                                                                                      refine V_iconst C dL_law_1473 kc_i_0 ?_
                                                                                      exact absurd (Option.some.inj h) (by decide)
                                                                                  · replace h := ifn c41 h
                                                                                    by_cases c42 : ((xs v3.toNatClampNeg) &&& (63 : Int32)) = 39
                                                                                    · replace h := ifp c42 h
                                                                                      refine V_table C rfl dL_law_33 (off := 1442) (by rw [c42]; decide +kernel) (tgt := 1475) rfl ?_
                                                                                      refine V_aload_n C 1 dL_law_1475 rfl rfl ?_
                                                                                      refine V_aload_n C 0 dL_law_1476 rfl rfl ?_
                                                                                      refine V_iload_n C 3 dL_law_1477 rfl rfl ?_
                                                                                      refine V_iconst C dL_law_1478 kc_i_1 ?_
                                                                                      refine V_iadd C dL_law_1479 ?_
                                                                                      obtain ⟨g464, h⟩ := gdt h
                                                                                      refine V_sld C Z.1 Z.2.1 Z.2.2.1 g464 dL_law_1480 ?_
                                                                                      obtain ⟨a466, S467, e465, h⟩ := bnd2_s h
                                                                                      refine L_callvi C Z.2.2.2.1 cf_X11_check (c_X11_check e465) q_ML_L_178 (ws_X11 sk_0) rfl dL_law_1481 (by decide) rfl rfl (Nat.le_of_ble_eq_true rfl) ?_
                                                                                      refine V_aload_n C 2 dL_law_1484 rfl rfl ?_
                                                                                      refine V_aload_n C 0 dL_law_1485 rfl rfl ?_
                                                                                      refine V_iload_n C 3 dL_law_1486 rfl rfl ?_
                                                                                      refine V_iconst C dL_law_1487 kc_i_1 ?_
                                                                                      refine V_iadd C dL_law_1488 ?_
                                                                                      obtain ⟨g468, h⟩ := gdt h
                                                                                      refine V_sld C Z.1 Z.2.1 Z.2.2.1 g468 dL_law_1489 ?_
                                                                                      obtain ⟨a470, S471, e469, h⟩ := bnd2_s h
                                                                                      refine L_callvi C Z.2.2.2.1 cf_X12_check (c_X12_check e469) q_ML_L_181 (ws_X12 sk_172) rfl dL_law_1490 (by decide) rfl rfl (Nat.le_of_ble_eq_true rfl) ?_
                                                                                      refine V_icmp_eq C dL_law_1493 rfl (fun c472 => ?_) (fun c472 => ?_)
                                                                                      · replace h := ifp c472 h
                                                                                        exact v_L_law_1544 C Z ih h
                                                                                      · replace h := ifn c472 h
                                                                                        refine V_iconst C dL_law_1496 kc_i_0 ?_
                                                                                        exact absurd (Option.some.inj h) (by decide)
                                                                                    · replace h := ifn c42 h
                                                                                      by_cases c43 : ((xs v3.toNatClampNeg) &&& (63 : Int32)) = 40
                                                                                      · replace h := ifp c43 h
                                                                                        refine V_table C rfl dL_law_33 (off := 1465) (by rw [c43]; decide +kernel) (tgt := 1498) rfl ?_
                                                                                        refine V_aload_n C 1 dL_law_1498 rfl rfl ?_
                                                                                        refine V_aload_n C 0 dL_law_1499 rfl rfl ?_
                                                                                        refine V_iload_n C 3 dL_law_1500 rfl rfl ?_
                                                                                        refine V_iconst C dL_law_1501 kc_i_1 ?_
                                                                                        refine V_iadd C dL_law_1502 ?_
                                                                                        obtain ⟨g473, h⟩ := gdt h
                                                                                        refine V_sld C Z.1 Z.2.1 Z.2.2.1 g473 dL_law_1503 ?_
                                                                                        obtain ⟨a475, S476, e474, h⟩ := bnd2_s h
                                                                                        refine L_callvi C Z.2.2.2.1 cf_X11_count (c_X11_count e474) q_ML_L_182 (ws_X11 sk_0) rfl dL_law_1504 (by decide) rfl rfl (Nat.le_of_ble_eq_true rfl) ?_
                                                                                        refine V_aload_n C 2 dL_law_1507 rfl rfl ?_
                                                                                        refine V_aload_n C 0 dL_law_1508 rfl rfl ?_
                                                                                        refine V_iload_n C 3 dL_law_1509 rfl rfl ?_
                                                                                        refine V_iconst C dL_law_1510 kc_i_1 ?_
                                                                                        refine V_iadd C dL_law_1511 ?_
                                                                                        obtain ⟨g477, h⟩ := gdt h
                                                                                        refine V_sld C Z.1 Z.2.1 Z.2.2.1 g477 dL_law_1512 ?_
                                                                                        obtain ⟨a479, S480, e478, h⟩ := bnd2_s h
                                                                                        refine L_callvi C Z.2.2.2.1 cf_X12_count (c_X12_count e478) q_ML_L_185 (ws_X12 sk_172) rfl dL_law_1513 (by decide) rfl rfl (Nat.le_of_ble_eq_true rfl) ?_
                                                                                        refine V_icmp_eq C dL_law_1516 rfl (fun c481 => ?_) (fun c481 => ?_)
                                                                                        · replace h := ifp c481 h
                                                                                          exact v_L_law_1544 C Z ih h
                                                                                        · replace h := ifn c481 h
                                                                                          refine V_iconst C dL_law_1519 kc_i_0 ?_
                                                                                          exact absurd (Option.some.inj h) (by decide)
                                                                                      · replace h := ifn c43 h
                                                                                        by_cases c44 : ((xs v3.toNatClampNeg) &&& (63 : Int32)) = 41
                                                                                        · replace h := ifp c44 h
                                                                                          refine V_table C rfl dL_law_33 (off := 1488) (by rw [c44]; decide +kernel) (tgt := 1521) rfl ?_
                                                                                          refine V_aload_n C 1 dL_law_1521 rfl rfl ?_
                                                                                          refine V_aload_n C 0 dL_law_1522 rfl rfl ?_
                                                                                          refine V_iload_n C 3 dL_law_1523 rfl rfl ?_
                                                                                          refine V_iconst C dL_law_1524 kc_i_1 ?_
                                                                                          refine V_iadd C dL_law_1525 ?_
                                                                                          obtain ⟨g482, h⟩ := gdt h
                                                                                          refine V_sld C Z.1 Z.2.1 Z.2.2.1 g482 dL_law_1526 ?_
                                                                                          obtain ⟨a484, S485, e483, h⟩ := bnd2_s h
                                                                                          refine L_callvi C Z.2.2.2.1 cf_X11_told (c_X11_told e483) q_ML_L_186 (ws_X11 sk_0) rfl dL_law_1527 (by decide) rfl rfl (Nat.le_of_ble_eq_true rfl) ?_
                                                                                          refine V_aload_n C 2 dL_law_1530 rfl rfl ?_
                                                                                          refine V_aload_n C 0 dL_law_1531 rfl rfl ?_
                                                                                          refine V_iload_n C 3 dL_law_1532 rfl rfl ?_
                                                                                          refine V_iconst C dL_law_1533 kc_i_1 ?_
                                                                                          refine V_iadd C dL_law_1534 ?_
                                                                                          obtain ⟨g486, h⟩ := gdt h
                                                                                          refine V_sld C Z.1 Z.2.1 Z.2.2.1 g486 dL_law_1535 ?_
                                                                                          obtain ⟨a488, S489, e487, h⟩ := bnd2_s h
                                                                                          refine L_callvi C Z.2.2.2.1 cf_X12_told (c_X12_told e487) q_ML_L_189 (ws_X12 sk_172) rfl dL_law_1536 (by decide) rfl rfl (Nat.le_of_ble_eq_true rfl) ?_
                                                                                          refine V_icmp_eq C dL_law_1539 rfl (fun c490 => ?_) (fun c490 => ?_)
                                                                                          · replace h := ifp c490 h
                                                                                            exact v_L_law_1544 C Z ih h
                                                                                          · replace h := ifn c490 h
                                                                                            refine V_iconst C dL_law_1542 kc_i_0 ?_
                                                                                            exact absurd (Option.some.inj h) (by decide)
                                                                                        · replace h := ifn c44 h
                                                                                          refine V_table C rfl dL_law_33 (swt_d [(0 : Int32), (1 : Int32), (2 : Int32), (3 : Int32), (4 : Int32), (5 : Int32), (6 : Int32), (7 : Int32), (8 : Int32), (9 : Int32), (10 : Int32), (11 : Int32), (12 : Int32), (13 : Int32), (14 : Int32), (15 : Int32), (16 : Int32), (17 : Int32), (18 : Int32), (19 : Int32), (20 : Int32), (21 : Int32), (22 : Int32), (23 : Int32), (24 : Int32), (25 : Int32), (26 : Int32), (27 : Int32), (28 : Int32), (29 : Int32), (30 : Int32), (31 : Int32), (32 : Int32), (33 : Int32), (34 : Int32), (35 : Int32), (36 : Int32), (37 : Int32), (38 : Int32), (39 : Int32), (40 : Int32), (41 : Int32)] (List.forall_mem_cons.mpr ⟨c3, (List.forall_mem_cons.mpr ⟨c4, (List.forall_mem_cons.mpr ⟨c5, (List.forall_mem_cons.mpr ⟨c6, (List.forall_mem_cons.mpr ⟨c7, (List.forall_mem_cons.mpr ⟨c8, (List.forall_mem_cons.mpr ⟨c9, (List.forall_mem_cons.mpr ⟨c10, (List.forall_mem_cons.mpr ⟨c11, (List.forall_mem_cons.mpr ⟨c12, (List.forall_mem_cons.mpr ⟨c13, (List.forall_mem_cons.mpr ⟨c14, (List.forall_mem_cons.mpr ⟨c15, (List.forall_mem_cons.mpr ⟨c16, (List.forall_mem_cons.mpr ⟨c17, (List.forall_mem_cons.mpr ⟨c18, (List.forall_mem_cons.mpr ⟨c19, (List.forall_mem_cons.mpr ⟨c20, (List.forall_mem_cons.mpr ⟨c21, (List.forall_mem_cons.mpr ⟨c22, (List.forall_mem_cons.mpr ⟨c23, (List.forall_mem_cons.mpr ⟨c24, (List.forall_mem_cons.mpr ⟨c25, (List.forall_mem_cons.mpr ⟨c26, (List.forall_mem_cons.mpr ⟨c27, (List.forall_mem_cons.mpr ⟨c28, (List.forall_mem_cons.mpr ⟨c29, (List.forall_mem_cons.mpr ⟨c30, (List.forall_mem_cons.mpr ⟨c31, (List.forall_mem_cons.mpr ⟨c32, (List.forall_mem_cons.mpr ⟨c33, (List.forall_mem_cons.mpr ⟨c34, (List.forall_mem_cons.mpr ⟨c35, (List.forall_mem_cons.mpr ⟨c36, (List.forall_mem_cons.mpr ⟨c37, (List.forall_mem_cons.mpr ⟨c38, (List.forall_mem_cons.mpr ⟨c39, (List.forall_mem_cons.mpr ⟨c40, (List.forall_mem_cons.mpr ⟨c41, (List.forall_mem_cons.mpr ⟨c42, (List.forall_mem_cons.mpr ⟨c43, (List.forall_mem_cons.mpr ⟨c44, (fun _ h => absurd h List.not_mem_nil)⟩)⟩)⟩)⟩)⟩)⟩)⟩)⟩)⟩)⟩)⟩)⟩)⟩)⟩)⟩)⟩)⟩)⟩)⟩)⟩)⟩)⟩)⟩)⟩)⟩)⟩)⟩)⟩)⟩)⟩)⟩)⟩)⟩)⟩)⟩)⟩)⟩)⟩)⟩)⟩)⟩)⟩) rfl (by decide +kernel)) (tgt := 1544) rfl ?_
                                                                                          exact v_L_law_1544 C Z ih h
