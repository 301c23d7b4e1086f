/-! the state: the numbers of every place (fields of an object, elements of an array); the one long -/
abbrev St : Type := (Nat → Nat → Int32) × (Nat → Int64)
def pt (S : St) (k j : Nat) (v : Int32) : St := (fun k' => if k' = k then upd (S.1 k) j v else S.1 k', S.2)
def pq (S : St) (k : Nat) (v : Int64) : St := (S.1, fun k' => if k' = k then v else S.2 k')
def pa (S : St) (k : Nat) (f : Nat → Int32) : St := (fun k' => if k' = k then f else S.1 k', S.2)
def NP : Nat := 185
def shL : List Nat := [11, 2, 5, 0, 5, 0, 5, 0, 9, 3, 5, 0, 5, 0, 5, 0, 5, 0, 8, 5, 0, 5, 0, 5, 0, 5, 0, 5, 0, 5, 0, 5, 0, 5, 0, 5, 0, 7, 5, 0, 5, 0, 5, 0, 7, 5, 0, 5, 0, 5, 0, 5, 0, 5, 0, 9, 3, 5, 0, 5, 0, 5, 0, 5, 0, 8, 5, 0, 5, 0, 5, 0, 5, 0, 5, 0, 5, 0, 5, 0, 5, 0, 5, 0, 7, 5, 0, 5, 0, 5, 0, 7, 5, 0, 5, 0, 5, 0, 5, 0, 5, 0, 9, 3, 5, 0, 5, 0, 5, 0, 5, 0, 8, 5, 0, 5, 0, 5, 0, 5, 0, 5, 0, 5, 0, 5, 0, 5, 0, 5, 0, 7, 5, 0, 5, 0, 5, 0, 7, 5, 0, 5, 0, 5, 0, 5, 0, 5, 0, 4, 5, 0, 5, 0, 10, 5, 0, 1, 6, 5, 0, 6, 5, 0, 6, 5, 0, 6, 5, 0, 5, 0, 12, 0, 0, 0, 0, 0, 0, 0, 0, 0, 0, 0, 0]
def lnL : List Nat := [0, 0, 0, 6, 0, 6, 0, 6, 0, 0, 0, 6, 0, 6, 0, 6, 0, 6, 0, 0, 12, 0, 12, 0, 12, 0, 12, 0, 72, 0, 6, 0, 6, 0, 6, 0, 5, 0, 0, 60, 0, 5, 0, 60, 0, 0, 60, 0, 5, 0, 60, 0, 60, 0, 24, 0, 0, 0, 6, 0, 6, 0, 6, 0, 6, 0, 0, 12, 0, 12, 0, 12, 0, 12, 0, 72, 0, 6, 0, 6, 0, 6, 0, 5, 0, 0, 60, 0, 5, 0, 60, 0, 0, 60, 0, 5, 0, 60, 0, 60, 0, 24, 0, 0, 0, 6, 0, 6, 0, 6, 0, 6, 0, 0, 12, 0, 12, 0, 12, 0, 12, 0, 72, 0, 6, 0, 6, 0, 6, 0, 5, 0, 0, 60, 0, 5, 0, 60, 0, 0, 60, 0, 5, 0, 60, 0, 60, 0, 24, 0, 0, 60, 0, 60, 0, 0, 30, 4, 0, 0, 24, 0, 0, 24, 0, 0, 24, 0, 0, 24, 0, 7, 0, 516, 516, 516, 7, 124, 128, 64, 30, 4, 4, 96, 24]
def sh (k : Nat) : Nat := shL.getD k 99
def ln (k : Nat) : Nat := lnL.getD k 0
theorem sh_lt {k a : Nat} (h : sh k = a) (ha : a ≠ 99) : k < NP := by
  apply Nat.lt_of_not_le
  intro q
  exact ha (h.symm.trans (by unfold sh; rw [List.getD_eq_getElem?_getD, List.getElem?_eq_none (by rw [show shL.length = NP from by decide +kernel]; exact q)]; rfl))
theorem sh_off {a b c : Nat} (ha : a ≠ 99) (h : (List.range NP).all (fun t => sh t != a || sh (t + b) == c) = true) {t : Nat} (ht : sh t = a) : sh (t + b) = c := by
  have h1 := List.all_eq_true.mp h t (List.mem_range.mpr (sh_lt ht ha))
  rw [ht] at h1
  simpa using h1
def shf (al : Nat → Nat) (k : Nat) : Nat → Option Nat := va_up (va_up (va_up (va_up (fun _ => none) 0 (some (al (k + 1)))) 1 (some (al (k + 4)))) 2 (some (al (k + 7)))) 3 (some (al (k + 10)))
def cellOf (ε : eT) (S : St) (q : Nat) : va_E := match sh q with
  | 0 => .inl (eI ε, ln q, .inl (S.1 q))
  | 1 => .inl (eS ε, 4, .inr (.inr (.inr (.inr (shf (fun k => eA ε (q + k)) 0)))))
  | 2 => .inr (0, [.ref (eA ε (q + 1)), .ref (eA ε (q + 3)), .ref (eA ε (q + 5)), .long (S.2 q), .int (S.1 q 4)])
  | 3 => .inr (1, [.ref (eA ε (q + 1)), .ref (eA ε (q + 3)), .ref (eA ε (q + 5)), .ref (eA ε (q + 7))])
  | 4 => .inr (2, [.ref (eA ε (q + 1)), .ref (eA ε (q + 3)), .int (S.1 q 2), .int (S.1 q 3), .int (S.1 q 4)])
  | 5 => .inr (3, [.ref (eA ε (q + 1)), .int (S.1 q 1)])
  | 6 => .inr (4, [.ref (eA ε (q + 1)), .int (S.1 q 1)])
  | 7 => .inr (5, [.ref (eA ε (q + 1)), .ref (eA ε (q + 3)), .ref (eA ε (q + 5))])
  | 8 => .inr (6, [.ref (eA ε (q + 1)), .ref (eA ε (q + 3)), .ref (eA ε (q + 5)), .ref (eA ε (q + 7)), .ref (eA ε (q + 9))])
  | 9 => .inr (7, [.ref (eA ε (q + 1)), .ref (eA ε (q + 10)), .ref (eA ε (q + 21)), .ref (eA ε (q + 23)), .ref (eA ε (q + 25)), .ref (eA ε (q + 27)), .ref (eA ε (q + 29)), .ref (eA ε (q + 36)), .ref (eA ε (q + 43)), .ref (eA ε (q + 45)), .ref (eA ε 1), .int (S.1 q 11), .int (S.1 q 12), .int (S.1 q 13), .int (S.1 q 14)])
  | 10 => .inr (8, [.ref (eA ε (q + 1)), .int (S.1 q 1), .int (S.1 q 2), .int (S.1 q 3), .int (S.1 q 4)])
  | 11 => .inr (9, [.ref (eA ε 8), .ref (eA ε 55), .ref (eA ε 102), .ref (eA ε 149), .ref (eA ε 1), .ref (eA ε 154), .ref (eA ε 157), .ref (eA ε 170), .int (S.1 q 8)])
  | 12 => .inr (10, [.ref (eA ε 173), .ref (eA ε 174), .ref (eA ε 175), .int (S.1 q 3), .ref (eA ε 176), .int (S.1 q 5), .int (S.1 q 6), .int (S.1 q 7), .int (S.1 q 8), .ref (eA ε 177), .ref (eA ε 178), .ref (eA ε 179), .ref (eA ε 180), .int (S.1 q 13), .int (S.1 q 14), .int (S.1 q 15), .ref (eA ε 181), .ref (eA ε 182), .ref (eA ε 183), .ref (eA ε 184)])
  | _ => .inr (99, [])
def wsOf (ε : eT) (S : St) : va_W := (List.range NP).map (fun q => (eA ε q, cellOf ε S q))
theorem ws_at {ε : eT} {S : St} {q : Nat} (h : q < NP) : (wsOf ε S)[q]? = some (eA ε q, cellOf ε S q) := by simp [wsOf, h]
theorem cell_congr {ε : eT} {S S' : St} {q : Nat} (h1 : S.1 q = S'.1 q) (h2 : S.2 q = S'.2 q) : cellOf ε S q = cellOf ε S' q := by unfold cellOf; rw [h1, h2]
theorem ws_set {ε : eT} {S S' : St} {q : Nat} {e : va_E} (he : cellOf ε S' q = e) (h1 : ∀ k, k ≠ q → S.1 k = S'.1 k) (h2 : ∀ k, k ≠ q → S.2 k = S'.2 k) : (wsOf ε S).set q (eA ε q, e) = wsOf ε S' := by
  subst he
  apply List.ext_getElem?
  intro i
  by_cases hi : i < NP
  · rw [List.getElem?_set, ws_at hi, ws_at hi]
    by_cases hq : q = i
    · subst hq; simp [wsOf, hi]
    · rw [if_neg hq, cell_congr (h1 i (fun e => hq e.symm)) (h2 i (fun e => hq e.symm))]
  · rw [List.getElem?_eq_none (by simp [wsOf]; omega), List.getElem?_eq_none (by simp [wsOf]; omega)]
theorem pt_ne {S : St} {k j : Nat} {v : Int32} : ∀ i, i ≠ k → S.1 i = (pt S k j v).1 i := fun i h => by simp [pt, h]
theorem pq_ne {S : St} {k : Nat} {v : Int64} : ∀ i, i ≠ k → S.2 i = (pq S k v).2 i := fun i h => by simp [pq, h]
theorem pa_ne {S : St} {k : Nat} {f : Nat → Int32} : ∀ i, i ≠ k → S.1 i = (pa S k f).1 i := fun i h => by simp [pa, h]
def inb (i : Int32) (n : Nat) : Bool := !(decide (i < 0) || decide (n ≤ i.toNatClampNeg))
theorem inb_in {i : Int32} {n : Nat} (h : inb i n = true) : vp_in i n := by
  unfold inb at h
  intro q
  rcases q with q | q <;> simp [q] at h
theorem ifp {α : Type} {c : Prop} [Decidable c] {a b r : α} (hc : c) (h : (if c then a else b) = r) : a = r := by rw [if_pos hc] at h; exact h
theorem ifn {α : Type} {c : Prop} [Decidable c] {a b r : α} (hc : ¬ c) (h : (if c then a else b) = r) : b = r := by rw [if_neg hc] at h; exact h
theorem gdt {α : Type} {c : Prop} [Decidable c] {a : Option α} {r : α} (h : (if c then a else none) = some r) : c ∧ a = some r := by
  by_cases hc : c
  · exact ⟨hc, ifp hc h⟩
  · rw [if_neg hc] at h; cases h
theorem gdf {α : Type} {c : Prop} [Decidable c] {a : Option α} {r : α} (h : (if c then none else a) = some r) : ¬ c ∧ a = some r := by
  by_cases hc : c
  · rw [if_pos hc] at h; cases h
  · exact ⟨hc, ifn hc h⟩
def bnd {α β : Type} (x : Option α) (f : α → Option β) : Option β := x.bind f
def bnd2 {α β γ : Type} (x : Option (α × β)) (f : α → β → Option γ) : Option γ := bnd x (fun p => f p.1 p.2)
theorem bnd_s {α β : Type} {x : Option α} {f : α → Option β} {r : β} (h : bnd x f = some r) : ∃ a, x = some a ∧ f a = some r := Option.bind_eq_some_iff.mp h
/-- the contract of a method over the world -/
def CI (ε : eT) (y : MethodName) (cc : ByteArray) (nL : Nat) (ret : Option FieldType) (d : Nat) (av : List Value) (S : St) (r : Option Value) (S' : St) : Prop := CT ε y cc nL ret d av (wsOf ε S) (fun v w => v = r ∧ w = wsOf ε S') 0 0
def RI (ε : eT) (κ : kT) (ret : Option FieldType) (r : Option Value) (S' : St) : Prop := Rt ε κ ret (fun v w => v = r ∧ w = wsOf ε S') 0 0
theorem CI_of {ε : eT} {y : MethodName} {cc : ByteArray} {nL : Nat} {ret : Option FieldType} {d : Nat} {av : List Value} {S S' : St} {r : Option Value} (hy : plainName y.cls = true) (hlen : (lg_sl av).length ≤ nL) {lv : List (Nat × Value)} (hlv : lv_args 0 av = lv)
    (body : ∀ κ : kT, Act ε κ cc nL y.cls d → RI ε κ ret r S' → V ε κ nL 0 lv [] (wsOf ε S) 0 0) : CI ε y cc nL ret d av S r S' := CT_of hy hlen (fun κ C X _ => hlv ▸ body κ C X)
theorem W_callvi {ε : eT} {κ : kT} {cc : ByteArray} {nL d : Nat} {own : String} (C : Act ε κ cc nL own d) {pc : Nat} {lv : List (Nat × Value)} {rest : List Value} {S S' : St} {y : MethodName} {cy : ByteArray} {nY na index d' : Nat} {ret : Option FieldType} (F : CFv y cy nY ret na) {b : Nat} {As st0 : List Value} {x : Int32} (hM : CI ε y cy nY ret d' (.ref (eA ε b) :: As) S (some (.int x)) S') (hl : Cond.methodLink own index y ∈ tbW) {ci : Nat} {fs : List Value} {T : u_T} {N : Nat} (he : (wsOf ε S)[b]? = some (eA ε b, .inr (ci, fs))) (hc : vwCl[ci]? = some (y.cls, T, N)) (hdg : decode cc pc = .ok (.invokevirtual index, 3)) (hd : d' + 1 ≤ d) (hn : As.length = na) (hst : st0 = As.reverse ++ .ref (eA ε b) :: rest) (hw : (rest.map fun v => v.category).sum ≤ 8) (K : V ε κ nL (pc + 3) lv (.int x :: rest) (wsOf ε S') 0 0) : V ε κ nL pc lv st0 (wsOf ε S) 0 0 := V_callvG C F hM hl b he hc hd hn hst hw hdg ⟨Nat.zero_le _, Nat.zero_le _⟩ (fun r ws' h => by obtain ⟨rfl, rfl⟩ := h; exact K)
theorem W_callvl {ε : eT} {κ : kT} {cc : ByteArray} {nL d : Nat} {own : String} (C : Act ε κ cc nL own d) {pc : Nat} {lv : List (Nat × Value)} {rest : List Value} {S S' : St} {y : MethodName} {cy : ByteArray} {nY na index d' : Nat} {ret : Option FieldType} (F : CFv y cy nY ret na) {b : Nat} {As st0 : List Value} {x : Int64} (hM : CI ε y cy nY ret d' (.ref (eA ε b) :: As) S (some (.long x)) S') (hl : Cond.methodLink own index y ∈ tbW) {ci : Nat} {fs : List Value} {T : u_T} {N : Nat} (he : (wsOf ε S)[b]? = some (eA ε b, .inr (ci, fs))) (hc : vwCl[ci]? = some (y.cls, T, N)) (hdg : decode cc pc = .ok (.invokevirtual index, 3)) (hd : d' + 1 ≤ d) (hn : As.length = na) (hst : st0 = As.reverse ++ .ref (eA ε b) :: rest) (hw : (rest.map fun v => v.category).sum ≤ 8) (K : V ε κ nL (pc + 3) lv (.long x :: rest) (wsOf ε S') 0 0) : V ε κ nL pc lv st0 (wsOf ε S) 0 0 := V_callvG C F hM hl b he hc hd hn hst hw hdg ⟨Nat.zero_le _, Nat.zero_le _⟩ (fun r ws' h => by obtain ⟨rfl, rfl⟩ := h; exact K)
theorem W_callvn {ε : eT} {κ : kT} {cc : ByteArray} {nL d : Nat} {own : String} (C : Act ε κ cc nL own d) {pc : Nat} {lv : List (Nat × Value)} {rest : List Value} {S S' : St} {y : MethodName} {cy : ByteArray} {nY na index d' : Nat} {ret : Option FieldType} (F : CFv y cy nY ret na) {b : Nat} {As st0 : List Value}  (hM : CI ε y cy nY ret d' (.ref (eA ε b) :: As) S none S') (hl : Cond.methodLink own index y ∈ tbW) {ci : Nat} {fs : List Value} {T : u_T} {N : Nat} (he : (wsOf ε S)[b]? = some (eA ε b, .inr (ci, fs))) (hc : vwCl[ci]? = some (y.cls, T, N)) (hdg : decode cc pc = .ok (.invokevirtual index, 3)) (hd : d' + 1 ≤ d) (hn : As.length = na) (hst : st0 = As.reverse ++ .ref (eA ε b) :: rest) (hw : (rest.map fun v => v.category).sum ≤ 8) (K : V ε κ nL (pc + 3) lv (rest) (wsOf ε S') 0 0) : V ε κ nL pc lv st0 (wsOf ε S) 0 0 := V_callvG C F hM hl b he hc hd hn hst hw hdg ⟨Nat.zero_le _, Nat.zero_le _⟩ (fun r ws' h => by obtain ⟨rfl, rfl⟩ := h; exact K)
theorem W_callva {ε : eT} {κ : kT} {cc : ByteArray} {nL d : Nat} {own : String} (C : Act ε κ cc nL own d) {pc : Nat} {lv : List (Nat × Value)} {rest : List Value} {S S' : St} {y : MethodName} {cy : ByteArray} {nY na index d' : Nat} {ret : Option FieldType} (F : CFv y cy nY ret na) {b : Nat} {As st0 : List Value} {x : Nat} (hM : CI ε y cy nY ret d' (.ref (eA ε b) :: As) S (some (.ref x)) S') (hl : Cond.methodLink own index y ∈ tbW) {ci : Nat} {fs : List Value} {T : u_T} {N : Nat} (he : (wsOf ε S)[b]? = some (eA ε b, .inr (ci, fs))) (hc : vwCl[ci]? = some (y.cls, T, N)) (hdg : decode cc pc = .ok (.invokevirtual index, 3)) (hd : d' + 1 ≤ d) (hn : As.length = na) (hst : st0 = As.reverse ++ .ref (eA ε b) :: rest) (hw : (rest.map fun v => v.category).sum ≤ 8) (K : V ε κ nL (pc + 3) lv (.ref x :: rest) (wsOf ε S') 0 0) : V ε κ nL pc lv st0 (wsOf ε S) 0 0 := V_callvG C F hM hl b he hc hd hn hst hw hdg ⟨Nat.zero_le _, Nat.zero_le _⟩ (fun r ws' h => by obtain ⟨rfl, rfl⟩ := h; exact K)
theorem W_callvz {ε : eT} {κ : kT} {cc : ByteArray} {nL d : Nat} {own : String} (C : Act ε κ cc nL own d) {pc : Nat} {lv : List (Nat × Value)} {rest : List Value} {S S' : St} {y : MethodName} {cy : ByteArray} {nY na index d' : Nat} {ret : Option FieldType} (F : CFv y cy nY ret na) {b : Nat} {As st0 : List Value}  (hM : CI ε y cy nY ret d' (.ref (eA ε b) :: As) S (some .null) S') (hl : Cond.methodLink own index y ∈ tbW) {ci : Nat} {fs : List Value} {T : u_T} {N : Nat} (he : (wsOf ε S)[b]? = some (eA ε b, .inr (ci, fs))) (hc : vwCl[ci]? = some (y.cls, T, N)) (hdg : decode cc pc = .ok (.invokevirtual index, 3)) (hd : d' + 1 ≤ d) (hn : As.length = na) (hst : st0 = As.reverse ++ .ref (eA ε b) :: rest) (hw : (rest.map fun v => v.category).sum ≤ 8) (K : V ε κ nL (pc + 3) lv (.null :: rest) (wsOf ε S') 0 0) : V ε κ nL pc lv st0 (wsOf ε S) 0 0 := V_callvG C F hM hl b he hc hd hn hst hw hdg ⟨Nat.zero_le _, Nat.zero_le _⟩ (fun r ws' h => by obtain ⟨rfl, rfl⟩ := h; exact K)
theorem W_callsi {ε : eT} {κ : kT} {cc : ByteArray} {nL d : Nat} {own : String} (C : Act ε κ cc nL own d) {pc : Nat} {lv : List (Nat × Value)} {rest : List Value} {S S' : St} {y : MethodName} {cy : ByteArray} {nY na index d' : Nat} {ret : Option FieldType} (F : CFs y cy nY ret na)  {As st0 : List Value} {x : Int32} (hM : CI ε y cy nY ret d' As S (some (.int x)) S') (hl : Cond.methodLink own index y ∈ tbW) (hdg : decode cc pc = .ok (.invokestatic index, 3)) (hd : d' + 1 ≤ d) (hn : As.length = na) (hst : st0 = As.reverse ++ rest) (hw : (rest.map fun v => v.category).sum ≤ 8) (K : V ε κ nL (pc + 3) lv (.int x :: rest) (wsOf ε S') 0 0) : V ε κ nL pc lv st0 (wsOf ε S) 0 0 := V_callsG C F hM hl hd hn hst hw hdg ⟨Nat.zero_le _, Nat.zero_le _⟩ (fun r ws' h => by obtain ⟨rfl, rfl⟩ := h; exact K)
theorem W_callsl {ε : eT} {κ : kT} {cc : ByteArray} {nL d : Nat} {own : String} (C : Act ε κ cc nL own d) {pc : Nat} {lv : List (Nat × Value)} {rest : List Value} {S S' : St} {y : MethodName} {cy : ByteArray} {nY na index d' : Nat} {ret : Option FieldType} (F : CFs y cy nY ret na)  {As st0 : List Value} {x : Int64} (hM : CI ε y cy nY ret d' As S (some (.long x)) S') (hl : Cond.methodLink own index y ∈ tbW) (hdg : decode cc pc = .ok (.invokestatic index, 3)) (hd : d' + 1 ≤ d) (hn : As.length = na) (hst : st0 = As.reverse ++ rest) (hw : (rest.map fun v => v.category).sum ≤ 8) (K : V ε κ nL (pc + 3) lv (.long x :: rest) (wsOf ε S') 0 0) : V ε κ nL pc lv st0 (wsOf ε S) 0 0 := V_callsG C F hM hl hd hn hst hw hdg ⟨Nat.zero_le _, Nat.zero_le _⟩ (fun r ws' h => by obtain ⟨rfl, rfl⟩ := h; exact K)
theorem W_callsn {ε : eT} {κ : kT} {cc : ByteArray} {nL d : Nat} {own : String} (C : Act ε κ cc nL own d) {pc : Nat} {lv : List (Nat × Value)} {rest : List Value} {S S' : St} {y : MethodName} {cy : ByteArray} {nY na index d' : Nat} {ret : Option FieldType} (F : CFs y cy nY ret na)  {As st0 : List Value}  (hM : CI ε y cy nY ret d' As S none S') (hl : Cond.methodLink own index y ∈ tbW) (hdg : decode cc pc = .ok (.invokestatic index, 3)) (hd : d' + 1 ≤ d) (hn : As.length = na) (hst : st0 = As.reverse ++ rest) (hw : (rest.map fun v => v.category).sum ≤ 8) (K : V ε κ nL (pc + 3) lv (rest) (wsOf ε S') 0 0) : V ε κ nL pc lv st0 (wsOf ε S) 0 0 := V_callsG C F hM hl hd hn hst hw hdg ⟨Nat.zero_le _, Nat.zero_le _⟩ (fun r ws' h => by obtain ⟨rfl, rfl⟩ := h; exact K)
theorem W_callsa {ε : eT} {κ : kT} {cc : ByteArray} {nL d : Nat} {own : String} (C : Act ε κ cc nL own d) {pc : Nat} {lv : List (Nat × Value)} {rest : List Value} {S S' : St} {y : MethodName} {cy : ByteArray} {nY na index d' : Nat} {ret : Option FieldType} (F : CFs y cy nY ret na)  {As st0 : List Value} {x : Nat} (hM : CI ε y cy nY ret d' As S (some (.ref x)) S') (hl : Cond.methodLink own index y ∈ tbW) (hdg : decode cc pc = .ok (.invokestatic index, 3)) (hd : d' + 1 ≤ d) (hn : As.length = na) (hst : st0 = As.reverse ++ rest) (hw : (rest.map fun v => v.category).sum ≤ 8) (K : V ε κ nL (pc + 3) lv (.ref x :: rest) (wsOf ε S') 0 0) : V ε κ nL pc lv st0 (wsOf ε S) 0 0 := V_callsG C F hM hl hd hn hst hw hdg ⟨Nat.zero_le _, Nat.zero_le _⟩ (fun r ws' h => by obtain ⟨rfl, rfl⟩ := h; exact K)
theorem W_callsz {ε : eT} {κ : kT} {cc : ByteArray} {nL d : Nat} {own : String} (C : Act ε κ cc nL own d) {pc : Nat} {lv : List (Nat × Value)} {rest : List Value} {S S' : St} {y : MethodName} {cy : ByteArray} {nY na index d' : Nat} {ret : Option FieldType} (F : CFs y cy nY ret na)  {As st0 : List Value}  (hM : CI ε y cy nY ret d' As S (some .null) S') (hl : Cond.methodLink own index y ∈ tbW) (hdg : decode cc pc = .ok (.invokestatic index, 3)) (hd : d' + 1 ≤ d) (hn : As.length = na) (hst : st0 = As.reverse ++ rest) (hw : (rest.map fun v => v.category).sum ≤ 8) (K : V ε κ nL (pc + 3) lv (.null :: rest) (wsOf ε S') 0 0) : V ε κ nL pc lv st0 (wsOf ε S) 0 0 := V_callsG C F hM hl hd hn hst hw hdg ⟨Nat.zero_le _, Nat.zero_le _⟩ (fun r ws' h => by obtain ⟨rfl, rfl⟩ := h; exact K)
theorem ws_X2 {ε : eT} {S : St} {q : Nat} (hq : sh q = 2) : (wsOf ε S)[q]? = some (eA ε q, .inr (0, [.ref (eA ε (q + 1)), .ref (eA ε (q + 3)), .ref (eA ε (q + 5)), .long (S.2 q), .int (S.1 q 4)])) := by rw [ws_at (sh_lt hq (by decide))]; unfold cellOf; rw [hq]; try rfl
theorem G_X2_values {ε : eT} {κ : kT} {cc : ByteArray} {nL d : Nat} {own : String} (C : Act ε κ cc nL own d) {pc : Nat} {lv : List (Nat × Value)} {st : List Value} {S : St} {q : Nat} {index : Nat} (hq : sh q = 2) (hw : Cond.fieldLink own index "NamedPrices$Market" "values" "LNamedPrices$Row;" ∈ tbW) (hdg : decode cc pc = .ok (.getfield index, 3)) (K : V ε κ nL (pc + 3) lv (.ref (eA ε (q + 1)) :: st) (wsOf ε S) 0 0) : V ε κ nL pc lv (.ref (eA ε q) :: st) (wsOf ε S) 0 0 := V_get C inX2 rfl 0 (by decide) hw q (ws_X2 hq) rfl hdg K
theorem G_X2_misses {ε : eT} {κ : kT} {cc : ByteArray} {nL d : Nat} {own : String} (C : Act ε κ cc nL own d) {pc : Nat} {lv : List (Nat × Value)} {st : List Value} {S : St} {q : Nat} {index : Nat} (hq : sh q = 2) (hw : Cond.fieldLink own index "NamedPrices$Market" "misses" "LNamedPrices$Row;" ∈ tbW) (hdg : decode cc pc = .ok (.getfield index, 3)) (K : V ε κ nL (pc + 3) lv (.ref (eA ε (q + 3)) :: st) (wsOf ε S) 0 0) : V ε κ nL pc lv (.ref (eA ε q) :: st) (wsOf ε S) 0 0 := V_get C inX2 rfl 1 (by decide) hw q (ws_X2 hq) rfl hdg K
theorem G_X2_outOf {ε : eT} {κ : kT} {cc : ByteArray} {nL d : Nat} {own : String} (C : Act ε κ cc nL own d) {pc : Nat} {lv : List (Nat × Value)} {st : List Value} {S : St} {q : Nat} {index : Nat} (hq : sh q = 2) (hw : Cond.fieldLink own index "NamedPrices$Market" "outOf" "LNamedPrices$Row;" ∈ tbW) (hdg : decode cc pc = .ok (.getfield index, 3)) (K : V ε κ nL (pc + 3) lv (.ref (eA ε (q + 5)) :: st) (wsOf ε S) 0 0) : V ε κ nL pc lv (.ref (eA ε q) :: st) (wsOf ε S) 0 0 := V_get C inX2 rfl 2 (by decide) hw q (ws_X2 hq) rfl hdg K
theorem G_X2_whole {ε : eT} {κ : kT} {cc : ByteArray} {nL d : Nat} {own : String} (C : Act ε κ cc nL own d) {pc : Nat} {lv : List (Nat × Value)} {st : List Value} {S : St} {q : Nat} {index : Nat} (hq : sh q = 2) (hw : Cond.fieldLink own index "NamedPrices$Market" "whole" "J" ∈ tbW) (hdg : decode cc pc = .ok (.getfield index, 3)) (K : V ε κ nL (pc + 3) lv (.long (S.2 q) :: st) (wsOf ε S) 0 0) : V ε κ nL pc lv (.ref (eA ε q) :: st) (wsOf ε S) 0 0 := V_get C inX2 rfl 3 (by decide) hw q (ws_X2 hq) rfl hdg K
theorem P_X2_whole {ε : eT} {κ : kT} {cc : ByteArray} {nL d : Nat} {own : String} (C : Act ε κ cc nL own d) {pc : Nat} {lv : List (Nat × Value)} {st : List Value} {S : St} {q : Nat} {index : Nat} {x : Int64} (hq : sh q = 2) (hw : Cond.fieldLink own index "NamedPrices$Market" "whole" "J" ∈ tbW) (hdg : decode cc pc = .ok (.putfield index, 3)) (K : V ε κ nL (pc + 3) lv st (wsOf ε (pq S q x)) 0 0) : V ε κ nL pc lv (.long x :: .ref (eA ε q) :: st) (wsOf ε S) 0 0 := V_put C inX2 rfl tyX2 tyX2_ok nmX2 3 (by decide) hw rfl q (ws_X2 hq) rfl rfl rfl (Nat.le_of_ble_eq_true rfl) hdg (ws_set (S' := pq S q x) (by unfold cellOf; rw [hq]; simp [pq]) (fun _ _ => rfl) pq_ne) K
theorem G_X2_own {ε : eT} {κ : kT} {cc : ByteArray} {nL d : Nat} {own : String} (C : Act ε κ cc nL own d) {pc : Nat} {lv : List (Nat × Value)} {st : List Value} {S : St} {q : Nat} {index : Nat} (hq : sh q = 2) (hw : Cond.fieldLink own index "NamedPrices$Market" "own" "I" ∈ tbW) (hdg : decode cc pc = .ok (.getfield index, 3)) (K : V ε κ nL (pc + 3) lv (.int (S.1 q 4) :: st) (wsOf ε S) 0 0) : V ε κ nL pc lv (.ref (eA ε q) :: st) (wsOf ε S) 0 0 := V_get C inX2 rfl 4 (by decide) hw q (ws_X2 hq) rfl hdg K
theorem P_X2_own {ε : eT} {κ : kT} {cc : ByteArray} {nL d : Nat} {own : String} (C : Act ε κ cc nL own d) {pc : Nat} {lv : List (Nat × Value)} {st : List Value} {S : St} {q : Nat} {index : Nat} {x : Int32} (hq : sh q = 2) (hw : Cond.fieldLink own index "NamedPrices$Market" "own" "I" ∈ tbW) (hdg : decode cc pc = .ok (.putfield index, 3)) (K : V ε κ nL (pc + 3) lv st (wsOf ε (pt S q 4 x)) 0 0) : V ε κ nL pc lv (.int x :: .ref (eA ε q) :: st) (wsOf ε S) 0 0 := V_put C inX2 rfl tyX2 tyX2_ok nmX2 4 (by decide) hw rfl q (ws_X2 hq) rfl rfl rfl (Nat.le_of_ble_eq_true rfl) hdg (ws_set (S' := pt S q 4 x) (by unfold cellOf; rw [hq]; simp [pt, upd]) pt_ne (fun _ _ => rfl)) K
theorem ws_X3 {ε : eT} {S : St} {q : Nat} (hq : sh q = 3) : (wsOf ε S)[q]? = some (eA ε q, .inr (1, [.ref (eA ε (q + 1)), .ref (eA ε (q + 3)), .ref (eA ε (q + 5)), .ref (eA ε (q + 7))])) := by rw [ws_at (sh_lt hq (by decide))]; unfold cellOf; rw [hq]; try rfl
theorem G_X3_kinds {ε : eT} {κ : kT} {cc : ByteArray} {nL d : Nat} {own : String} (C : Act ε κ cc nL own d) {pc : Nat} {lv : List (Nat × Value)} {st : List Value} {S : St} {q : Nat} {index : Nat} (hq : sh q = 3) (hw : Cond.fieldLink own index "NamedPrices$People" "kinds" "LNamedPrices$Row;" ∈ tbW) (hdg : decode cc pc = .ok (.getfield index, 3)) (K : V ε κ nL (pc + 3) lv (.ref (eA ε (q + 1)) :: st) (wsOf ε S) 0 0) : V ε κ nL pc lv (.ref (eA ε q) :: st) (wsOf ε S) 0 0 := V_get C inX3 rfl 0 (by decide) hw q (ws_X3 hq) rfl hdg K
theorem G_X3_purses {ε : eT} {κ : kT} {cc : ByteArray} {nL d : Nat} {own : String} (C : Act ε κ cc nL own d) {pc : Nat} {lv : List (Nat × Value)} {st : List Value} {S : St} {q : Nat} {index : Nat} (hq : sh q = 3) (hw : Cond.fieldLink own index "NamedPrices$People" "purses" "LNamedPrices$Row;" ∈ tbW) (hdg : decode cc pc = .ok (.getfield index, 3)) (K : V ε κ nL (pc + 3) lv (.ref (eA ε (q + 3)) :: st) (wsOf ε S) 0 0) : V ε κ nL pc lv (.ref (eA ε q) :: st) (wsOf ε S) 0 0 := V_get C inX3 rfl 1 (by decide) hw q (ws_X3 hq) rfl hdg K
theorem G_X3_chances {ε : eT} {κ : kT} {cc : ByteArray} {nL d : Nat} {own : String} (C : Act ε κ cc nL own d) {pc : Nat} {lv : List (Nat × Value)} {st : List Value} {S : St} {q : Nat} {index : Nat} (hq : sh q = 3) (hw : Cond.fieldLink own index "NamedPrices$People" "chances" "LNamedPrices$Row;" ∈ tbW) (hdg : decode cc pc = .ok (.getfield index, 3)) (K : V ε κ nL (pc + 3) lv (.ref (eA ε (q + 5)) :: st) (wsOf ε S) 0 0) : V ε κ nL pc lv (.ref (eA ε q) :: st) (wsOf ε S) 0 0 := V_get C inX3 rfl 2 (by decide) hw q (ws_X3 hq) rfl hdg K
theorem G_X3_outOf {ε : eT} {κ : kT} {cc : ByteArray} {nL d : Nat} {own : String} (C : Act ε κ cc nL own d) {pc : Nat} {lv : List (Nat × Value)} {st : List Value} {S : St} {q : Nat} {index : Nat} (hq : sh q = 3) (hw : Cond.fieldLink own index "NamedPrices$People" "outOf" "LNamedPrices$Row;" ∈ tbW) (hdg : decode cc pc = .ok (.getfield index, 3)) (K : V ε κ nL (pc + 3) lv (.ref (eA ε (q + 7)) :: st) (wsOf ε S) 0 0) : V ε κ nL pc lv (.ref (eA ε q) :: st) (wsOf ε S) 0 0 := V_get C inX3 rfl 3 (by decide) hw q (ws_X3 hq) rfl hdg K
theorem ws_X4 {ε : eT} {S : St} {q : Nat} (hq : sh q = 4) : (wsOf ε S)[q]? = some (eA ε q, .inr (2, [.ref (eA ε (q + 1)), .ref (eA ε (q + 3)), .int (S.1 q 2), .int (S.1 q 3), .int (S.1 q 4)])) := by rw [ws_at (sh_lt hq (by decide))]; unfold cellOf; rw [hq]; try rfl
theorem G_X4_code {ε : eT} {κ : kT} {cc : ByteArray} {nL d : Nat} {own : String} (C : Act ε κ cc nL own d) {pc : Nat} {lv : List (Nat × Value)} {st : List Value} {S : St} {q : Nat} {index : Nat} (hq : sh q = 4) (hw : Cond.fieldLink own index "NamedPrices$Reader" "code" "LNamedPrices$Row;" ∈ tbW) (hdg : decode cc pc = .ok (.getfield index, 3)) (K : V ε κ nL (pc + 3) lv (.ref (eA ε (q + 1)) :: st) (wsOf ε S) 0 0) : V ε κ nL pc lv (.ref (eA ε q) :: st) (wsOf ε S) 0 0 := V_get C inX4 rfl 0 (by decide) hw q (ws_X4 hq) rfl hdg K
theorem G_X4_open {ε : eT} {κ : kT} {cc : ByteArray} {nL d : Nat} {own : String} (C : Act ε κ cc nL own d) {pc : Nat} {lv : List (Nat × Value)} {st : List Value} {S : St} {q : Nat} {index : Nat} (hq : sh q = 4) (hw : Cond.fieldLink own index "NamedPrices$Reader" "open" "LNamedPrices$Row;" ∈ tbW) (hdg : decode cc pc = .ok (.getfield index, 3)) (K : V ε κ nL (pc + 3) lv (.ref (eA ε (q + 3)) :: st) (wsOf ε S) 0 0) : V ε κ nL pc lv (.ref (eA ε q) :: st) (wsOf ε S) 0 0 := V_get C inX4 rfl 1 (by decide) hw q (ws_X4 hq) rfl hdg K
theorem G_X4_opened {ε : eT} {κ : kT} {cc : ByteArray} {nL d : Nat} {own : String} (C : Act ε κ cc nL own d) {pc : Nat} {lv : List (Nat × Value)} {st : List Value} {S : St} {q : Nat} {index : Nat} (hq : sh q = 4) (hw : Cond.fieldLink own index "NamedPrices$Reader" "opened" "I" ∈ tbW) (hdg : decode cc pc = .ok (.getfield index, 3)) (K : V ε κ nL (pc + 3) lv (.int (S.1 q 2) :: st) (wsOf ε S) 0 0) : V ε κ nL pc lv (.ref (eA ε q) :: st) (wsOf ε S) 0 0 := V_get C inX4 rfl 2 (by decide) hw q (ws_X4 hq) rfl hdg K
theorem P_X4_opened {ε : eT} {κ : kT} {cc : ByteArray} {nL d : Nat} {own : String} (C : Act ε κ cc nL own d) {pc : Nat} {lv : List (Nat × Value)} {st : List Value} {S : St} {q : Nat} {index : Nat} {x : Int32} (hq : sh q = 4) (hw : Cond.fieldLink own index "NamedPrices$Reader" "opened" "I" ∈ tbW) (hdg : decode cc pc = .ok (.putfield index, 3)) (K : V ε κ nL (pc + 3) lv st (wsOf ε (pt S q 2 x)) 0 0) : V ε κ nL pc lv (.int x :: .ref (eA ε q) :: st) (wsOf ε S) 0 0 := V_put C inX4 rfl tyX4 tyX4_ok nmX4 2 (by decide) hw rfl q (ws_X4 hq) rfl rfl rfl (Nat.le_of_ble_eq_true rfl) hdg (ws_set (S' := pt S q 2 x) (by unfold cellOf; rw [hq]; simp [pt, upd]) pt_ne (fun _ _ => rfl)) K
theorem G_X4_digits {ε : eT} {κ : kT} {cc : ByteArray} {nL d : Nat} {own : String} (C : Act ε κ cc nL own d) {pc : Nat} {lv : List (Nat × Value)} {st : List Value} {S : St} {q : Nat} {index : Nat} (hq : sh q = 4) (hw : Cond.fieldLink own index "NamedPrices$Reader" "digits" "I" ∈ tbW) (hdg : decode cc pc = .ok (.getfield index, 3)) (K : V ε κ nL (pc + 3) lv (.int (S.1 q 3) :: st) (wsOf ε S) 0 0) : V ε κ nL pc lv (.ref (eA ε q) :: st) (wsOf ε S) 0 0 := V_get C inX4 rfl 3 (by decide) hw q (ws_X4 hq) rfl hdg K
theorem P_X4_digits {ε : eT} {κ : kT} {cc : ByteArray} {nL d : Nat} {own : String} (C : Act ε κ cc nL own d) {pc : Nat} {lv : List (Nat × Value)} {st : List Value} {S : St} {q : Nat} {index : Nat} {x : Int32} (hq : sh q = 4) (hw : Cond.fieldLink own index "NamedPrices$Reader" "digits" "I" ∈ tbW) (hdg : decode cc pc = .ok (.putfield index, 3)) (K : V ε κ nL (pc + 3) lv st (wsOf ε (pt S q 3 x)) 0 0) : V ε κ nL pc lv (.int x :: .ref (eA ε q) :: st) (wsOf ε S) 0 0 := V_put C inX4 rfl tyX4 tyX4_ok nmX4 3 (by decide) hw rfl q (ws_X4 hq) rfl rfl rfl (Nat.le_of_ble_eq_true rfl) hdg (ws_set (S' := pt S q 3 x) (by unfold cellOf; rw [hq]; simp [pt, upd]) pt_ne (fun _ _ => rfl)) K
theorem G_X4_operandDue {ε : eT} {κ : kT} {cc : ByteArray} {nL d : Nat} {own : String} (C : Act ε κ cc nL own d) {pc : Nat} {lv : List (Nat × Value)} {st : List Value} {S : St} {q : Nat} {index : Nat} (hq : sh q = 4) (hw : Cond.fieldLink own index "NamedPrices$Reader" "operandDue" "Z" ∈ tbW) (hdg : decode cc pc = .ok (.getfield index, 3)) (K : V ε κ nL (pc + 3) lv (.int (S.1 q 4) :: st) (wsOf ε S) 0 0) : V ε κ nL pc lv (.ref (eA ε q) :: st) (wsOf ε S) 0 0 := V_get C inX4 rfl 4 (by decide) hw q (ws_X4 hq) rfl hdg K
theorem P_X4_operandDue {ε : eT} {κ : kT} {cc : ByteArray} {nL d : Nat} {own : String} (C : Act ε κ cc nL own d) {pc : Nat} {lv : List (Nat × Value)} {st : List Value} {S : St} {q : Nat} {index : Nat} {x : Int32} (hb : narrow .boolean (.int x) = .int x) (hb2 : fits .boolean (.int x) = true) (hq : sh q = 4) (hw : Cond.fieldLink own index "NamedPrices$Reader" "operandDue" "Z" ∈ tbW) (hdg : decode cc pc = .ok (.putfield index, 3)) (K : V ε κ nL (pc + 3) lv st (wsOf ε (pt S q 4 x)) 0 0) : V ε κ nL pc lv (.int x :: .ref (eA ε q) :: st) (wsOf ε S) 0 0 := V_put C inX4 rfl tyX4 tyX4_ok nmX4 4 (by decide) hw rfl q (ws_X4 hq) rfl hb hb2 (Nat.le_of_ble_eq_true rfl) hdg (ws_set (S' := pt S q 4 x) (by unfold cellOf; rw [hq]; simp [pt, upd]) pt_ne (fun _ _ => rfl)) K
theorem ws_X5 {ε : eT} {S : St} {q : Nat} (hq : sh q = 5) : (wsOf ε S)[q]? = some (eA ε q, .inr (3, [.ref (eA ε (q + 1)), .int (S.1 q 1)])) := by rw [ws_at (sh_lt hq (by decide))]; unfold cellOf; rw [hq]; try rfl
theorem G_X5_numbers {ε : eT} {κ : kT} {cc : ByteArray} {nL d : Nat} {own : String} (C : Act ε κ cc nL own d) {pc : Nat} {lv : List (Nat × Value)} {st : List Value} {S : St} {q : Nat} {index : Nat} (hq : sh q = 5) (hw : Cond.fieldLink own index "NamedPrices$Row" "numbers" "[I" ∈ tbW) (hdg : decode cc pc = .ok (.getfield index, 3)) (K : V ε κ nL (pc + 3) lv (.ref (eA ε (q + 1)) :: st) (wsOf ε S) 0 0) : V ε κ nL pc lv (.ref (eA ε q) :: st) (wsOf ε S) 0 0 := V_get C inX5 rfl 0 (by decide) hw q (ws_X5 hq) rfl hdg K
theorem G_X5_size {ε : eT} {κ : kT} {cc : ByteArray} {nL d : Nat} {own : String} (C : Act ε κ cc nL own d) {pc : Nat} {lv : List (Nat × Value)} {st : List Value} {S : St} {q : Nat} {index : Nat} (hq : sh q = 5) (hw : Cond.fieldLink own index "NamedPrices$Row" "size" "I" ∈ tbW) (hdg : decode cc pc = .ok (.getfield index, 3)) (K : V ε κ nL (pc + 3) lv (.int (S.1 q 1) :: st) (wsOf ε S) 0 0) : V ε κ nL pc lv (.ref (eA ε q) :: st) (wsOf ε S) 0 0 := V_get C inX5 rfl 1 (by decide) hw q (ws_X5 hq) rfl hdg K
theorem P_X5_size {ε : eT} {κ : kT} {cc : ByteArray} {nL d : Nat} {own : String} (C : Act ε κ cc nL own d) {pc : Nat} {lv : List (Nat × Value)} {st : List Value} {S : St} {q : Nat} {index : Nat} {x : Int32} (hq : sh q = 5) (hw : Cond.fieldLink own index "NamedPrices$Row" "size" "I" ∈ tbW) (hdg : decode cc pc = .ok (.putfield index, 3)) (K : V ε κ nL (pc + 3) lv st (wsOf ε (pt S q 1 x)) 0 0) : V ε κ nL pc lv (.int x :: .ref (eA ε q) :: st) (wsOf ε S) 0 0 := V_put C inX5 rfl tyX5 tyX5_ok nmX5 1 (by decide) hw rfl q (ws_X5 hq) rfl rfl rfl (Nat.le_of_ble_eq_true rfl) hdg (ws_set (S' := pt S q 1 x) (by unfold cellOf; rw [hq]; simp [pt, upd]) pt_ne (fun _ _ => rfl)) K
theorem ws_X6 {ε : eT} {S : St} {q : Nat} (hq : sh q = 6) : (wsOf ε S)[q]? = some (eA ε q, .inr (4, [.ref (eA ε (q + 1)), .int (S.1 q 1)])) := by rw [ws_at (sh_lt hq (by decide))]; unfold cellOf; rw [hq]; try rfl
theorem G_X6_numbers {ε : eT} {κ : kT} {cc : ByteArray} {nL d : Nat} {own : String} (C : Act ε κ cc nL own d) {pc : Nat} {lv : List (Nat × Value)} {st : List Value} {S : St} {q : Nat} {index : Nat} (hq : sh q = 6) (hw : Cond.fieldLink own index "NamedPrices$Sheet" "numbers" "LNamedPrices$Row;" ∈ tbW) (hdg : decode cc pc = .ok (.getfield index, 3)) (K : V ε κ nL (pc + 3) lv (.ref (eA ε (q + 1)) :: st) (wsOf ε S) 0 0) : V ε κ nL pc lv (.ref (eA ε q) :: st) (wsOf ε S) 0 0 := V_get C inX6 rfl 0 (by decide) hw q (ws_X6 hq) rfl hdg K
theorem G_X6_bits {ε : eT} {κ : kT} {cc : ByteArray} {nL d : Nat} {own : String} (C : Act ε κ cc nL own d) {pc : Nat} {lv : List (Nat × Value)} {st : List Value} {S : St} {q : Nat} {index : Nat} (hq : sh q = 6) (hw : Cond.fieldLink own index "NamedPrices$Sheet" "bits" "I" ∈ tbW) (hdg : decode cc pc = .ok (.getfield index, 3)) (K : V ε κ nL (pc + 3) lv (.int (S.1 q 1) :: st) (wsOf ε S) 0 0) : V ε κ nL pc lv (.ref (eA ε q) :: st) (wsOf ε S) 0 0 := V_get C inX6 rfl 1 (by decide) hw q (ws_X6 hq) rfl hdg K
theorem P_X6_bits {ε : eT} {κ : kT} {cc : ByteArray} {nL d : Nat} {own : String} (C : Act ε κ cc nL own d) {pc : Nat} {lv : List (Nat × Value)} {st : List Value} {S : St} {q : Nat} {index : Nat} {x : Int32} (hq : sh q = 6) (hw : Cond.fieldLink own index "NamedPrices$Sheet" "bits" "I" ∈ tbW) (hdg : decode cc pc = .ok (.putfield index, 3)) (K : V ε κ nL (pc + 3) lv st (wsOf ε (pt S q 1 x)) 0 0) : V ε κ nL pc lv (.int x :: .ref (eA ε q) :: st) (wsOf ε S) 0 0 := V_put C inX6 rfl tyX6 tyX6_ok nmX6 1 (by decide) hw rfl q (ws_X6 hq) rfl rfl rfl (Nat.le_of_ble_eq_true rfl) hdg (ws_set (S' := pt S q 1 x) (by unfold cellOf; rw [hq]; simp [pt, upd]) pt_ne (fun _ _ => rfl)) K
theorem ws_X7 {ε : eT} {S : St} {q : Nat} (hq : sh q = 7) : (wsOf ε S)[q]? = some (eA ε q, .inr (5, [.ref (eA ε (q + 1)), .ref (eA ε (q + 3)), .ref (eA ε (q + 5))])) := by rw [ws_at (sh_lt hq (by decide))]; unfold cellOf; rw [hq]; try rfl
theorem G_X7_code {ε : eT} {κ : kT} {cc : ByteArray} {nL d : Nat} {own : String} (C : Act ε κ cc nL own d) {pc : Nat} {lv : List (Nat × Value)} {st : List Value} {S : St} {q : Nat} {index : Nat} (hq : sh q = 7) (hw : Cond.fieldLink own index "NamedPrices$Text" "code" "LNamedPrices$Row;" ∈ tbW) (hdg : decode cc pc = .ok (.getfield index, 3)) (K : V ε κ nL (pc + 3) lv (.ref (eA ε (q + 1)) :: st) (wsOf ε S) 0 0) : V ε κ nL pc lv (.ref (eA ε q) :: st) (wsOf ε S) 0 0 := V_get C inX7 rfl 0 (by decide) hw q (ws_X7 hq) rfl hdg K
theorem G_X7_names {ε : eT} {κ : kT} {cc : ByteArray} {nL d : Nat} {own : String} (C : Act ε κ cc nL own d) {pc : Nat} {lv : List (Nat × Value)} {st : List Value} {S : St} {q : Nat} {index : Nat} (hq : sh q = 7) (hw : Cond.fieldLink own index "NamedPrices$Text" "names" "LNamedPrices$Row;" ∈ tbW) (hdg : decode cc pc = .ok (.getfield index, 3)) (K : V ε κ nL (pc + 3) lv (.ref (eA ε (q + 3)) :: st) (wsOf ε S) 0 0) : V ε κ nL pc lv (.ref (eA ε q) :: st) (wsOf ε S) 0 0 := V_get C inX7 rfl 1 (by decide) hw q (ws_X7 hq) rfl hdg K
theorem G_X7_stack {ε : eT} {κ : kT} {cc : ByteArray} {nL d : Nat} {own : String} (C : Act ε κ cc nL own d) {pc : Nat} {lv : List (Nat × Value)} {st : List Value} {S : St} {q : Nat} {index : Nat} (hq : sh q = 7) (hw : Cond.fieldLink own index "NamedPrices$Text" "stack" "LNamedPrices$Row;" ∈ tbW) (hdg : decode cc pc = .ok (.getfield index, 3)) (K : V ε κ nL (pc + 3) lv (.ref (eA ε (q + 5)) :: st) (wsOf ε S) 0 0) : V ε κ nL pc lv (.ref (eA ε q) :: st) (wsOf ε S) 0 0 := V_get C inX7 rfl 2 (by decide) hw q (ws_X7 hq) rfl hdg K
theorem ws_X8 {ε : eT} {S : St} {q : Nat} (hq : sh q = 8) : (wsOf ε S)[q]? = some (eA ε q, .inr (6, [.ref (eA ε (q + 1)), .ref (eA ε (q + 3)), .ref (eA ε (q + 5)), .ref (eA ε (q + 7)), .ref (eA ε (q + 9))])) := by rw [ws_at (sh_lt hq (by decide))]; unfold cellOf; rw [hq]; try rfl
theorem G_X8_owners {ε : eT} {κ : kT} {cc : ByteArray} {nL d : Nat} {own : String} (C : Act ε κ cc nL own d) {pc : Nat} {lv : List (Nat × Value)} {st : List Value} {S : St} {q : Nat} {index : Nat} (hq : sh q = 8) (hw : Cond.fieldLink own index "NamedPrices$Things" "owners" "LNamedPrices$Row;" ∈ tbW) (hdg : decode cc pc = .ok (.getfield index, 3)) (K : V ε κ nL (pc + 3) lv (.ref (eA ε (q + 1)) :: st) (wsOf ε S) 0 0) : V ε κ nL pc lv (.ref (eA ε q) :: st) (wsOf ε S) 0 0 := V_get C inX8 rfl 0 (by decide) hw q (ws_X8 hq) rfl hdg K
theorem G_X8_prices {ε : eT} {κ : kT} {cc : ByteArray} {nL d : Nat} {own : String} (C : Act ε κ cc nL own d) {pc : Nat} {lv : List (Nat × Value)} {st : List Value} {S : St} {q : Nat} {index : Nat} (hq : sh q = 8) (hw : Cond.fieldLink own index "NamedPrices$Things" "prices" "LNamedPrices$Row;" ∈ tbW) (hdg : decode cc pc = .ok (.getfield index, 3)) (K : V ε κ nL (pc + 3) lv (.ref (eA ε (q + 3)) :: st) (wsOf ε S) 0 0) : V ε κ nL pc lv (.ref (eA ε q) :: st) (wsOf ε S) 0 0 := V_get C inX8 rfl 1 (by decide) hw q (ws_X8 hq) rfl hdg K
theorem G_X8_sounds {ε : eT} {κ : kT} {cc : ByteArray} {nL d : Nat} {own : String} (C : Act ε κ cc nL own d) {pc : Nat} {lv : List (Nat × Value)} {st : List Value} {S : St} {q : Nat} {index : Nat} (hq : sh q = 8) (hw : Cond.fieldLink own index "NamedPrices$Things" "sounds" "LNamedPrices$Row;" ∈ tbW) (hdg : decode cc pc = .ok (.getfield index, 3)) (K : V ε κ nL (pc + 3) lv (.ref (eA ε (q + 5)) :: st) (wsOf ε S) 0 0) : V ε κ nL pc lv (.ref (eA ε q) :: st) (wsOf ε S) 0 0 := V_get C inX8 rfl 2 (by decide) hw q (ws_X8 hq) rfl hdg K
theorem G_X8_kept {ε : eT} {κ : kT} {cc : ByteArray} {nL d : Nat} {own : String} (C : Act ε κ cc nL own d) {pc : Nat} {lv : List (Nat × Value)} {st : List Value} {S : St} {q : Nat} {index : Nat} (hq : sh q = 8) (hw : Cond.fieldLink own index "NamedPrices$Things" "kept" "LNamedPrices$Row;" ∈ tbW) (hdg : decode cc pc = .ok (.getfield index, 3)) (K : V ε κ nL (pc + 3) lv (.ref (eA ε (q + 7)) :: st) (wsOf ε S) 0 0) : V ε κ nL pc lv (.ref (eA ε q) :: st) (wsOf ε S) 0 0 := V_get C inX8 rfl 3 (by decide) hw q (ws_X8 hq) rfl hdg K
theorem G_X8_worthRows {ε : eT} {κ : kT} {cc : ByteArray} {nL d : Nat} {own : String} (C : Act ε κ cc nL own d) {pc : Nat} {lv : List (Nat × Value)} {st : List Value} {S : St} {q : Nat} {index : Nat} (hq : sh q = 8) (hw : Cond.fieldLink own index "NamedPrices$Things" "worthRows" "LNamedPrices$Row;" ∈ tbW) (hdg : decode cc pc = .ok (.getfield index, 3)) (K : V ε κ nL (pc + 3) lv (.ref (eA ε (q + 9)) :: st) (wsOf ε S) 0 0) : V ε κ nL pc lv (.ref (eA ε q) :: st) (wsOf ε S) 0 0 := V_get C inX8 rfl 4 (by decide) hw q (ws_X8 hq) rfl hdg K
theorem ws_X9 {ε : eT} {S : St} {q : Nat} (hq : sh q = 9) : (wsOf ε S)[q]? = some (eA ε q, .inr (7, [.ref (eA ε (q + 1)), .ref (eA ε (q + 10)), .ref (eA ε (q + 21)), .ref (eA ε (q + 23)), .ref (eA ε (q + 25)), .ref (eA ε (q + 27)), .ref (eA ε (q + 29)), .ref (eA ε (q + 36)), .ref (eA ε (q + 43)), .ref (eA ε (q + 45)), .ref (eA ε 1), .int (S.1 q 11), .int (S.1 q 12), .int (S.1 q 13), .int (S.1 q 14)])) := by rw [ws_at (sh_lt hq (by decide))]; unfold cellOf; rw [hq]; try rfl
theorem G_X9_people {ε : eT} {κ : kT} {cc : ByteArray} {nL d : Nat} {own : String} (C : Act ε κ cc nL own d) {pc : Nat} {lv : List (Nat × Value)} {st : List Value} {S : St} {q : Nat} {index : Nat} (hq : sh q = 9) (hw : Cond.fieldLink own index "NamedPrices$Town" "people" "LNamedPrices$People;" ∈ tbW) (hdg : decode cc pc = .ok (.getfield index, 3)) (K : V ε κ nL (pc + 3) lv (.ref (eA ε (q + 1)) :: st) (wsOf ε S) 0 0) : V ε κ nL pc lv (.ref (eA ε q) :: st) (wsOf ε S) 0 0 := V_get C inX9 rfl 0 (by decide) hw q (ws_X9 hq) rfl hdg K
theorem G_X9_things {ε : eT} {κ : kT} {cc : ByteArray} {nL d : Nat} {own : String} (C : Act ε κ cc nL own d) {pc : Nat} {lv : List (Nat × Value)} {st : List Value} {S : St} {q : Nat} {index : Nat} (hq : sh q = 9) (hw : Cond.fieldLink own index "NamedPrices$Town" "things" "LNamedPrices$Things;" ∈ tbW) (hdg : decode cc pc = .ok (.getfield index, 3)) (K : V ε κ nL (pc + 3) lv (.ref (eA ε (q + 10)) :: st) (wsOf ε S) 0 0) : V ε κ nL pc lv (.ref (eA ε q) :: st) (wsOf ε S) 0 0 := V_get C inX9 rfl 1 (by decide) hw q (ws_X9 hq) rfl hdg K
theorem G_X9_ones {ε : eT} {κ : kT} {cc : ByteArray} {nL d : Nat} {own : String} (C : Act ε κ cc nL own d) {pc : Nat} {lv : List (Nat × Value)} {st : List Value} {S : St} {q : Nat} {index : Nat} (hq : sh q = 9) (hw : Cond.fieldLink own index "NamedPrices$Town" "ones" "LNamedPrices$Row;" ∈ tbW) (hdg : decode cc pc = .ok (.getfield index, 3)) (K : V ε κ nL (pc + 3) lv (.ref (eA ε (q + 21)) :: st) (wsOf ε S) 0 0) : V ε κ nL pc lv (.ref (eA ε q) :: st) (wsOf ε S) 0 0 := V_get C inX9 rfl 2 (by decide) hw q (ws_X9 hq) rfl hdg K
theorem G_X9_others {ε : eT} {κ : kT} {cc : ByteArray} {nL d : Nat} {own : String} (C : Act ε κ cc nL own d) {pc : Nat} {lv : List (Nat × Value)} {st : List Value} {S : St} {q : Nat} {index : Nat} (hq : sh q = 9) (hw : Cond.fieldLink own index "NamedPrices$Town" "others" "LNamedPrices$Row;" ∈ tbW) (hdg : decode cc pc = .ok (.getfield index, 3)) (K : V ε κ nL (pc + 3) lv (.ref (eA ε (q + 23)) :: st) (wsOf ε S) 0 0) : V ε κ nL pc lv (.ref (eA ε q) :: st) (wsOf ε S) 0 0 := V_get C inX9 rfl 3 (by decide) hw q (ws_X9 hq) rfl hdg K
theorem G_X9_bonuses {ε : eT} {κ : kT} {cc : ByteArray} {nL d : Nat} {own : String} (C : Act ε κ cc nL own d) {pc : Nat} {lv : List (Nat × Value)} {st : List Value} {S : St} {q : Nat} {index : Nat} (hq : sh q = 9) (hw : Cond.fieldLink own index "NamedPrices$Town" "bonuses" "LNamedPrices$Row;" ∈ tbW) (hdg : decode cc pc = .ok (.getfield index, 3)) (K : V ε κ nL (pc + 3) lv (.ref (eA ε (q + 25)) :: st) (wsOf ε S) 0 0) : V ε κ nL pc lv (.ref (eA ε q) :: st) (wsOf ε S) 0 0 := V_get C inX9 rfl 4 (by decide) hw q (ws_X9 hq) rfl hdg K
theorem G_X9_rules {ε : eT} {κ : kT} {cc : ByteArray} {nL d : Nat} {own : String} (C : Act ε κ cc nL own d) {pc : Nat} {lv : List (Nat × Value)} {st : List Value} {S : St} {q : Nat} {index : Nat} (hq : sh q = 9) (hw : Cond.fieldLink own index "NamedPrices$Town" "rules" "LNamedPrices$Row;" ∈ tbW) (hdg : decode cc pc = .ok (.getfield index, 3)) (K : V ε κ nL (pc + 3) lv (.ref (eA ε (q + 27)) :: st) (wsOf ε S) 0 0) : V ε κ nL pc lv (.ref (eA ε q) :: st) (wsOf ε S) 0 0 := V_get C inX9 rfl 5 (by decide) hw q (ws_X9 hq) rfl hdg K
theorem G_X9_naming {ε : eT} {κ : kT} {cc : ByteArray} {nL d : Nat} {own : String} (C : Act ε κ cc nL own d) {pc : Nat} {lv : List (Nat × Value)} {st : List Value} {S : St} {q : Nat} {index : Nat} (hq : sh q = 9) (hw : Cond.fieldLink own index "NamedPrices$Town" "naming" "LNamedPrices$Text;" ∈ tbW) (hdg : decode cc pc = .ok (.getfield index, 3)) (K : V ε κ nL (pc + 3) lv (.ref (eA ε (q + 29)) :: st) (wsOf ε S) 0 0) : V ε κ nL pc lv (.ref (eA ε q) :: st) (wsOf ε S) 0 0 := V_get C inX9 rfl 6 (by decide) hw q (ws_X9 hq) rfl hdg K
theorem G_X9_mending {ε : eT} {κ : kT} {cc : ByteArray} {nL d : Nat} {own : String} (C : Act ε κ cc nL own d) {pc : Nat} {lv : List (Nat × Value)} {st : List Value} {S : St} {q : Nat} {index : Nat} (hq : sh q = 9) (hw : Cond.fieldLink own index "NamedPrices$Town" "mending" "LNamedPrices$Text;" ∈ tbW) (hdg : decode cc pc = .ok (.getfield index, 3)) (K : V ε κ nL (pc + 3) lv (.ref (eA ε (q + 36)) :: st) (wsOf ε S) 0 0) : V ε κ nL pc lv (.ref (eA ε q) :: st) (wsOf ε S) 0 0 := V_get C inX9 rfl 7 (by decide) hw q (ws_X9 hq) rfl hdg K
theorem G_X9_tape {ε : eT} {κ : kT} {cc : ByteArray} {nL d : Nat} {own : String} (C : Act ε κ cc nL own d) {pc : Nat} {lv : List (Nat × Value)} {st : List Value} {S : St} {q : Nat} {index : Nat} (hq : sh q = 9) (hw : Cond.fieldLink own index "NamedPrices$Town" "tape" "LNamedPrices$Row;" ∈ tbW) (hdg : decode cc pc = .ok (.getfield index, 3)) (K : V ε κ nL (pc + 3) lv (.ref (eA ε (q + 43)) :: st) (wsOf ε S) 0 0) : V ε κ nL pc lv (.ref (eA ε q) :: st) (wsOf ε S) 0 0 := V_get C inX9 rfl 8 (by decide) hw q (ws_X9 hq) rfl hdg K
theorem G_X9_waiting {ε : eT} {κ : kT} {cc : ByteArray} {nL d : Nat} {own : String} (C : Act ε κ cc nL own d) {pc : Nat} {lv : List (Nat × Value)} {st : List Value} {S : St} {q : Nat} {index : Nat} (hq : sh q = 9) (hw : Cond.fieldLink own index "NamedPrices$Town" "waiting" "LNamedPrices$Row;" ∈ tbW) (hdg : decode cc pc = .ok (.getfield index, 3)) (K : V ε κ nL (pc + 3) lv (.ref (eA ε (q + 45)) :: st) (wsOf ε S) 0 0) : V ε κ nL pc lv (.ref (eA ε q) :: st) (wsOf ε S) 0 0 := V_get C inX9 rfl 9 (by decide) hw q (ws_X9 hq) rfl hdg K
theorem G_X9_market {ε : eT} {κ : kT} {cc : ByteArray} {nL d : Nat} {own : String} (C : Act ε κ cc nL own d) {pc : Nat} {lv : List (Nat × Value)} {st : List Value} {S : St} {q : Nat} {index : Nat} (hq : sh q = 9) (hw : Cond.fieldLink own index "NamedPrices$Town" "market" "LNamedPrices$Market;" ∈ tbW) (hdg : decode cc pc = .ok (.getfield index, 3)) (K : V ε κ nL (pc + 3) lv (.ref (eA ε 1) :: st) (wsOf ε S) 0 0) : V ε κ nL pc lv (.ref (eA ε q) :: st) (wsOf ε S) 0 0 := V_get C inX9 rfl 10 (by decide) hw q (ws_X9 hq) rfl hdg K
theorem G_X9_years {ε : eT} {κ : kT} {cc : ByteArray} {nL d : Nat} {own : String} (C : Act ε κ cc nL own d) {pc : Nat} {lv : List (Nat × Value)} {st : List Value} {S : St} {q : Nat} {index : Nat} (hq : sh q = 9) (hw : Cond.fieldLink own index "NamedPrices$Town" "years" "I" ∈ tbW) (hdg : decode cc pc = .ok (.getfield index, 3)) (K : V ε κ nL (pc + 3) lv (.int (S.1 q 11) :: st) (wsOf ε S) 0 0) : V ε κ nL pc lv (.ref (eA ε q) :: st) (wsOf ε S) 0 0 := V_get C inX9 rfl 11 (by decide) hw q (ws_X9 hq) rfl hdg K
theorem P_X9_years {ε : eT} {κ : kT} {cc : ByteArray} {nL d : Nat} {own : String} (C : Act ε κ cc nL own d) {pc : Nat} {lv : List (Nat × Value)} {st : List Value} {S : St} {q : Nat} {index : Nat} {x : Int32} (hq : sh q = 9) (hw : Cond.fieldLink own index "NamedPrices$Town" "years" "I" ∈ tbW) (hdg : decode cc pc = .ok (.putfield index, 3)) (K : V ε κ nL (pc + 3) lv st (wsOf ε (pt S q 11 x)) 0 0) : V ε κ nL pc lv (.int x :: .ref (eA ε q) :: st) (wsOf ε S) 0 0 := V_put C inX9 rfl tyX9 tyX9_ok nmX9 11 (by decide) hw rfl q (ws_X9 hq) rfl rfl rfl (Nat.le_of_ble_eq_true rfl) hdg (ws_set (S' := pt S q 11 x) (by unfold cellOf; rw [hq]; simp [pt, upd]) pt_ne (fun _ _ => rfl)) K
theorem G_X9_moves {ε : eT} {κ : kT} {cc : ByteArray} {nL d : Nat} {own : String} (C : Act ε κ cc nL own d) {pc : Nat} {lv : List (Nat × Value)} {st : List Value} {S : St} {q : Nat} {index : Nat} (hq : sh q = 9) (hw : Cond.fieldLink own index "NamedPrices$Town" "moves" "I" ∈ tbW) (hdg : decode cc pc = .ok (.getfield index, 3)) (K : V ε κ nL (pc + 3) lv (.int (S.1 q 12) :: st) (wsOf ε S) 0 0) : V ε κ nL pc lv (.ref (eA ε q) :: st) (wsOf ε S) 0 0 := V_get C inX9 rfl 12 (by decide) hw q (ws_X9 hq) rfl hdg K
theorem P_X9_moves {ε : eT} {κ : kT} {cc : ByteArray} {nL d : Nat} {own : String} (C : Act ε κ cc nL own d) {pc : Nat} {lv : List (Nat × Value)} {st : List Value} {S : St} {q : Nat} {index : Nat} {x : Int32} (hq : sh q = 9) (hw : Cond.fieldLink own index "NamedPrices$Town" "moves" "I" ∈ tbW) (hdg : decode cc pc = .ok (.putfield index, 3)) (K : V ε κ nL (pc + 3) lv st (wsOf ε (pt S q 12 x)) 0 0) : V ε κ nL pc lv (.int x :: .ref (eA ε q) :: st) (wsOf ε S) 0 0 := V_put C inX9 rfl tyX9 tyX9_ok nmX9 12 (by decide) hw rfl q (ws_X9 hq) rfl rfl rfl (Nat.le_of_ble_eq_true rfl) hdg (ws_set (S' := pt S q 12 x) (by unfold cellOf; rw [hq]; simp [pt, upd]) pt_ne (fun _ _ => rfl)) K
theorem G_X9_pot {ε : eT} {κ : kT} {cc : ByteArray} {nL d : Nat} {own : String} (C : Act ε κ cc nL own d) {pc : Nat} {lv : List (Nat × Value)} {st : List Value} {S : St} {q : Nat} {index : Nat} (hq : sh q = 9) (hw : Cond.fieldLink own index "NamedPrices$Town" "pot" "I" ∈ tbW) (hdg : decode cc pc = .ok (.getfield index, 3)) (K : V ε κ nL (pc + 3) lv (.int (S.1 q 13) :: st) (wsOf ε S) 0 0) : V ε κ nL pc lv (.ref (eA ε q) :: st) (wsOf ε S) 0 0 := V_get C inX9 rfl 13 (by decide) hw q (ws_X9 hq) rfl hdg K
theorem P_X9_pot {ε : eT} {κ : kT} {cc : ByteArray} {nL d : Nat} {own : String} (C : Act ε κ cc nL own d) {pc : Nat} {lv : List (Nat × Value)} {st : List Value} {S : St} {q : Nat} {index : Nat} {x : Int32} (hq : sh q = 9) (hw : Cond.fieldLink own index "NamedPrices$Town" "pot" "I" ∈ tbW) (hdg : decode cc pc = .ok (.putfield index, 3)) (K : V ε κ nL (pc + 3) lv st (wsOf ε (pt S q 13 x)) 0 0) : V ε κ nL pc lv (.int x :: .ref (eA ε q) :: st) (wsOf ε S) 0 0 := V_put C inX9 rfl tyX9 tyX9_ok nmX9 13 (by decide) hw rfl q (ws_X9 hq) rfl rfl rfl (Nat.le_of_ble_eq_true rfl) hdg (ws_set (S' := pt S q 13 x) (by unfold cellOf; rw [hq]; simp [pt, upd]) pt_ne (fun _ _ => rfl)) K
theorem G_X9_z {ε : eT} {κ : kT} {cc : ByteArray} {nL d : Nat} {own : String} (C : Act ε κ cc nL own d) {pc : Nat} {lv : List (Nat × Value)} {st : List Value} {S : St} {q : Nat} {index : Nat} (hq : sh q = 9) (hw : Cond.fieldLink own index "NamedPrices$Town" "z" "I" ∈ tbW) (hdg : decode cc pc = .ok (.getfield index, 3)) (K : V ε κ nL (pc + 3) lv (.int (S.1 q 14) :: st) (wsOf ε S) 0 0) : V ε κ nL pc lv (.ref (eA ε q) :: st) (wsOf ε S) 0 0 := V_get C inX9 rfl 14 (by decide) hw q (ws_X9 hq) rfl hdg K
theorem P_X9_z {ε : eT} {κ : kT} {cc : ByteArray} {nL d : Nat} {own : String} (C : Act ε κ cc nL own d) {pc : Nat} {lv : List (Nat × Value)} {st : List Value} {S : St} {q : Nat} {index : Nat} {x : Int32} (hq : sh q = 9) (hw : Cond.fieldLink own index "NamedPrices$Town" "z" "I" ∈ tbW) (hdg : decode cc pc = .ok (.putfield index, 3)) (K : V ε κ nL (pc + 3) lv st (wsOf ε (pt S q 14 x)) 0 0) : V ε κ nL pc lv (.int x :: .ref (eA ε q) :: st) (wsOf ε S) 0 0 := V_put C inX9 rfl tyX9 tyX9_ok nmX9 14 (by decide) hw rfl q (ws_X9 hq) rfl rfl rfl (Nat.le_of_ble_eq_true rfl) hdg (ws_set (S' := pt S q 14 x) (by unfold cellOf; rw [hq]; simp [pt, upd]) pt_ne (fun _ _ => rfl)) K
theorem ws_X10 {ε : eT} {S : St} {q : Nat} (hq : sh q = 10) : (wsOf ε S)[q]? = some (eA ε q, .inr (8, [.ref (eA ε (q + 1)), .int (S.1 q 1), .int (S.1 q 2), .int (S.1 q 3), .int (S.1 q 4)])) := by rw [ws_at (sh_lt hq (by decide))]; unfold cellOf; rw [hq]; try rfl
theorem G_X10_trace {ε : eT} {κ : kT} {cc : ByteArray} {nL d : Nat} {own : String} (C : Act ε κ cc nL own d) {pc : Nat} {lv : List (Nat × Value)} {st : List Value} {S : St} {q : Nat} {index : Nat} (hq : sh q = 10) (hw : Cond.fieldLink own index "NamedPrices$Voices" "trace" "LNamedPrices$Row;" ∈ tbW) (hdg : decode cc pc = .ok (.getfield index, 3)) (K : V ε κ nL (pc + 3) lv (.ref (eA ε (q + 1)) :: st) (wsOf ε S) 0 0) : V ε κ nL pc lv (.ref (eA ε q) :: st) (wsOf ε S) 0 0 := V_get C inX10 rfl 0 (by decide) hw q (ws_X10 hq) rfl hdg K
theorem G_X10_parted {ε : eT} {κ : kT} {cc : ByteArray} {nL d : Nat} {own : String} (C : Act ε κ cc nL own d) {pc : Nat} {lv : List (Nat × Value)} {st : List Value} {S : St} {q : Nat} {index : Nat} (hq : sh q = 10) (hw : Cond.fieldLink own index "NamedPrices$Voices" "parted" "Z" ∈ tbW) (hdg : decode cc pc = .ok (.getfield index, 3)) (K : V ε κ nL (pc + 3) lv (.int (S.1 q 1) :: st) (wsOf ε S) 0 0) : V ε κ nL pc lv (.ref (eA ε q) :: st) (wsOf ε S) 0 0 := V_get C inX10 rfl 1 (by decide) hw q (ws_X10 hq) rfl hdg K
theorem P_X10_parted {ε : eT} {κ : kT} {cc : ByteArray} {nL d : Nat} {own : String} (C : Act ε κ cc nL own d) {pc : Nat} {lv : List (Nat × Value)} {st : List Value} {S : St} {q : Nat} {index : Nat} {x : Int32} (hb : narrow .boolean (.int x) = .int x) (hb2 : fits .boolean (.int x) = true) (hq : sh q = 10) (hw : Cond.fieldLink own index "NamedPrices$Voices" "parted" "Z" ∈ tbW) (hdg : decode cc pc = .ok (.putfield index, 3)) (K : V ε κ nL (pc + 3) lv st (wsOf ε (pt S q 1 x)) 0 0) : V ε κ nL pc lv (.int x :: .ref (eA ε q) :: st) (wsOf ε S) 0 0 := V_put C inX10 rfl tyX10 tyX10_ok nmX10 1 (by decide) hw rfl q (ws_X10 hq) rfl hb hb2 (Nat.le_of_ble_eq_true rfl) hdg (ws_set (S' := pt S q 1 x) (by unfold cellOf; rw [hq]; simp [pt, upd]) pt_ne (fun _ _ => rfl)) K
theorem G_X10_kind {ε : eT} {κ : kT} {cc : ByteArray} {nL d : Nat} {own : String} (C : Act ε κ cc nL own d) {pc : Nat} {lv : List (Nat × Value)} {st : List Value} {S : St} {q : Nat} {index : Nat} (hq : sh q = 10) (hw : Cond.fieldLink own index "NamedPrices$Voices" "kind" "I" ∈ tbW) (hdg : decode cc pc = .ok (.getfield index, 3)) (K : V ε κ nL (pc + 3) lv (.int (S.1 q 2) :: st) (wsOf ε S) 0 0) : V ε κ nL pc lv (.ref (eA ε q) :: st) (wsOf ε S) 0 0 := V_get C inX10 rfl 2 (by decide) hw q (ws_X10 hq) rfl hdg K
theorem P_X10_kind {ε : eT} {κ : kT} {cc : ByteArray} {nL d : Nat} {own : String} (C : Act ε κ cc nL own d) {pc : Nat} {lv : List (Nat × Value)} {st : List Value} {S : St} {q : Nat} {index : Nat} {x : Int32} (hq : sh q = 10) (hw : Cond.fieldLink own index "NamedPrices$Voices" "kind" "I" ∈ tbW) (hdg : decode cc pc = .ok (.putfield index, 3)) (K : V ε κ nL (pc + 3) lv st (wsOf ε (pt S q 2 x)) 0 0) : V ε κ nL pc lv (.int x :: .ref (eA ε q) :: st) (wsOf ε S) 0 0 := V_put C inX10 rfl tyX10 tyX10_ok nmX10 2 (by decide) hw rfl q (ws_X10 hq) rfl rfl rfl (Nat.le_of_ble_eq_true rfl) hdg (ws_set (S' := pt S q 2 x) (by unfold cellOf; rw [hq]; simp [pt, upd]) pt_ne (fun _ _ => rfl)) K
theorem G_X10_n {ε : eT} {κ : kT} {cc : ByteArray} {nL d : Nat} {own : String} (C : Act ε κ cc nL own d) {pc : Nat} {lv : List (Nat × Value)} {st : List Value} {S : St} {q : Nat} {index : Nat} (hq : sh q = 10) (hw : Cond.fieldLink own index "NamedPrices$Voices" "n" "I" ∈ tbW) (hdg : decode cc pc = .ok (.getfield index, 3)) (K : V ε κ nL (pc + 3) lv (.int (S.1 q 3) :: st) (wsOf ε S) 0 0) : V ε κ nL pc lv (.ref (eA ε q) :: st) (wsOf ε S) 0 0 := V_get C inX10 rfl 3 (by decide) hw q (ws_X10 hq) rfl hdg K
theorem P_X10_n {ε : eT} {κ : kT} {cc : ByteArray} {nL d : Nat} {own : String} (C : Act ε κ cc nL own d) {pc : Nat} {lv : List (Nat × Value)} {st : List Value} {S : St} {q : Nat} {index : Nat} {x : Int32} (hq : sh q = 10) (hw : Cond.fieldLink own index "NamedPrices$Voices" "n" "I" ∈ tbW) (hdg : decode cc pc = .ok (.putfield index, 3)) (K : V ε κ nL (pc + 3) lv st (wsOf ε (pt S q 3 x)) 0 0) : V ε κ nL pc lv (.int x :: .ref (eA ε q) :: st) (wsOf ε S) 0 0 := V_put C inX10 rfl tyX10 tyX10_ok nmX10 3 (by decide) hw rfl q (ws_X10 hq) rfl rfl rfl (Nat.le_of_ble_eq_true rfl) hdg (ws_set (S' := pt S q 3 x) (by unfold cellOf; rw [hq]; simp [pt, upd]) pt_ne (fun _ _ => rfl)) K
theorem G_X10_p {ε : eT} {κ : kT} {cc : ByteArray} {nL d : Nat} {own : String} (C : Act ε κ cc nL own d) {pc : Nat} {lv : List (Nat × Value)} {st : List Value} {S : St} {q : Nat} {index : Nat} (hq : sh q = 10) (hw : Cond.fieldLink own index "NamedPrices$Voices" "p" "I" ∈ tbW) (hdg : decode cc pc = .ok (.getfield index, 3)) (K : V ε κ nL (pc + 3) lv (.int (S.1 q 4) :: st) (wsOf ε S) 0 0) : V ε κ nL pc lv (.ref (eA ε q) :: st) (wsOf ε S) 0 0 := V_get C inX10 rfl 4 (by decide) hw q (ws_X10 hq) rfl hdg K
theorem P_X10_p {ε : eT} {κ : kT} {cc : ByteArray} {nL d : Nat} {own : String} (C : Act ε κ cc nL own d) {pc : Nat} {lv : List (Nat × Value)} {st : List Value} {S : St} {q : Nat} {index : Nat} {x : Int32} (hq : sh q = 10) (hw : Cond.fieldLink own index "NamedPrices$Voices" "p" "I" ∈ tbW) (hdg : decode cc pc = .ok (.putfield index, 3)) (K : V ε κ nL (pc + 3) lv st (wsOf ε (pt S q 4 x)) 0 0) : V ε κ nL pc lv (.int x :: .ref (eA ε q) :: st) (wsOf ε S) 0 0 := V_put C inX10 rfl tyX10 tyX10_ok nmX10 4 (by decide) hw rfl q (ws_X10 hq) rfl rfl rfl (Nat.le_of_ble_eq_true rfl) hdg (ws_set (S' := pt S q 4 x) (by unfold cellOf; rw [hq]; simp [pt, upd]) pt_ne (fun _ _ => rfl)) K
theorem ws_X11 {ε : eT} {S : St} {q : Nat} (hq : sh q = 11) : (wsOf ε S)[q]? = some (eA ε q, .inr (9, [.ref (eA ε 8), .ref (eA ε 55), .ref (eA ε 102), .ref (eA ε 149), .ref (eA ε 1), .ref (eA ε 154), .ref (eA ε 157), .ref (eA ε 170), .int (S.1 q 8)])) := by rw [ws_at (sh_lt hq (by decide))]; unfold cellOf; rw [hq]; try rfl
theorem G_X11_now {ε : eT} {κ : kT} {cc : ByteArray} {nL d : Nat} {own : String} (C : Act ε κ cc nL own d) {pc : Nat} {lv : List (Nat × Value)} {st : List Value} {S : St} {q : Nat} {index : Nat} (hq : sh q = 11) (hw : Cond.fieldLink own index "NamedPrices" "now" "LNamedPrices$Town;" ∈ tbW) (hdg : decode cc pc = .ok (.getfield index, 3)) (K : V ε κ nL (pc + 3) lv (.ref (eA ε 8) :: st) (wsOf ε S) 0 0) : V ε κ nL pc lv (.ref (eA ε q) :: st) (wsOf ε S) 0 0 := V_get C inX11 rfl 0 (by decide) hw q (ws_X11 hq) rfl hdg K
theorem G_X11_ahead {ε : eT} {κ : kT} {cc : ByteArray} {nL d : Nat} {own : String} (C : Act ε κ cc nL own d) {pc : Nat} {lv : List (Nat × Value)} {st : List Value} {S : St} {q : Nat} {index : Nat} (hq : sh q = 11) (hw : Cond.fieldLink own index "NamedPrices" "ahead" "LNamedPrices$Town;" ∈ tbW) (hdg : decode cc pc = .ok (.getfield index, 3)) (K : V ε κ nL (pc + 3) lv (.ref (eA ε 55) :: st) (wsOf ε S) 0 0) : V ε κ nL pc lv (.ref (eA ε q) :: st) (wsOf ε S) 0 0 := V_get C inX11 rfl 1 (by decide) hw q (ws_X11 hq) rfl hdg K
theorem G_X11_kept {ε : eT} {κ : kT} {cc : ByteArray} {nL d : Nat} {own : String} (C : Act ε κ cc nL own d) {pc : Nat} {lv : List (Nat × Value)} {st : List Value} {S : St} {q : Nat} {index : Nat} (hq : sh q = 11) (hw : Cond.fieldLink own index "NamedPrices" "kept" "LNamedPrices$Town;" ∈ tbW) (hdg : decode cc pc = .ok (.getfield index, 3)) (K : V ε κ nL (pc + 3) lv (.ref (eA ε 102) :: st) (wsOf ε S) 0 0) : V ε κ nL pc lv (.ref (eA ε q) :: st) (wsOf ε S) 0 0 := V_get C inX11 rfl 2 (by decide) hw q (ws_X11 hq) rfl hdg K
theorem G_X11_reader {ε : eT} {κ : kT} {cc : ByteArray} {nL d : Nat} {own : String} (C : Act ε κ cc nL own d) {pc : Nat} {lv : List (Nat × Value)} {st : List Value} {S : St} {q : Nat} {index : Nat} (hq : sh q = 11) (hw : Cond.fieldLink own index "NamedPrices" "reader" "LNamedPrices$Reader;" ∈ tbW) (hdg : decode cc pc = .ok (.getfield index, 3)) (K : V ε κ nL (pc + 3) lv (.ref (eA ε 149) :: st) (wsOf ε S) 0 0) : V ε κ nL pc lv (.ref (eA ε q) :: st) (wsOf ε S) 0 0 := V_get C inX11 rfl 3 (by decide) hw q (ws_X11 hq) rfl hdg K
theorem G_X11_market {ε : eT} {κ : kT} {cc : ByteArray} {nL d : Nat} {own : String} (C : Act ε κ cc nL own d) {pc : Nat} {lv : List (Nat × Value)} {st : List Value} {S : St} {q : Nat} {index : Nat} (hq : sh q = 11) (hw : Cond.fieldLink own index "NamedPrices" "market" "LNamedPrices$Market;" ∈ tbW) (hdg : decode cc pc = .ok (.getfield index, 3)) (K : V ε κ nL (pc + 3) lv (.ref (eA ε 1) :: st) (wsOf ε S) 0 0) : V ε κ nL pc lv (.ref (eA ε q) :: st) (wsOf ε S) 0 0 := V_get C inX11 rfl 4 (by decide) hw q (ws_X11 hq) rfl hdg K
theorem G_X11_voices {ε : eT} {κ : kT} {cc : ByteArray} {nL d : Nat} {own : String} (C : Act ε κ cc nL own d) {pc : Nat} {lv : List (Nat × Value)} {st : List Value} {S : St} {q : Nat} {index : Nat} (hq : sh q = 11) (hw : Cond.fieldLink own index "NamedPrices" "voices" "LNamedPrices$Voices;" ∈ tbW) (hdg : decode cc pc = .ok (.getfield index, 3)) (K : V ε κ nL (pc + 3) lv (.ref (eA ε 154) :: st) (wsOf ε S) 0 0) : V ε κ nL pc lv (.ref (eA ε q) :: st) (wsOf ε S) 0 0 := V_get C inX11 rfl 5 (by decide) hw q (ws_X11 hq) rfl hdg K
theorem G_X11_sheets {ε : eT} {κ : kT} {cc : ByteArray} {nL d : Nat} {own : String} (C : Act ε κ cc nL own d) {pc : Nat} {lv : List (Nat × Value)} {st : List Value} {S : St} {q : Nat} {index : Nat} (hq : sh q = 11) (hw : Cond.fieldLink own index "NamedPrices" "sheets" "[LNamedPrices$Sheet;" ∈ tbW) (hdg : decode cc pc = .ok (.getfield index, 3)) (K : V ε κ nL (pc + 3) lv (.ref (eA ε 157) :: st) (wsOf ε S) 0 0) : V ε κ nL pc lv (.ref (eA ε q) :: st) (wsOf ε S) 0 0 := V_get C inX11 rfl 6 (by decide) hw q (ws_X11 hq) rfl hdg K
theorem G_X11_errors {ε : eT} {κ : kT} {cc : ByteArray} {nL d : Nat} {own : String} (C : Act ε κ cc nL own d) {pc : Nat} {lv : List (Nat × Value)} {st : List Value} {S : St} {q : Nat} {index : Nat} (hq : sh q = 11) (hw : Cond.fieldLink own index "NamedPrices" "errors" "LNamedPrices$Row;" ∈ tbW) (hdg : decode cc pc = .ok (.getfield index, 3)) (K : V ε κ nL (pc + 3) lv (.ref (eA ε 170) :: st) (wsOf ε S) 0 0) : V ε κ nL pc lv (.ref (eA ε q) :: st) (wsOf ε S) 0 0 := V_get C inX11 rfl 7 (by decide) hw q (ws_X11 hq) rfl hdg K
theorem G_X11_images {ε : eT} {κ : kT} {cc : ByteArray} {nL d : Nat} {own : String} (C : Act ε κ cc nL own d) {pc : Nat} {lv : List (Nat × Value)} {st : List Value} {S : St} {q : Nat} {index : Nat} (hq : sh q = 11) (hw : Cond.fieldLink own index "NamedPrices" "images" "I" ∈ tbW) (hdg : decode cc pc = .ok (.getfield index, 3)) (K : V ε κ nL (pc + 3) lv (.int (S.1 q 8) :: st) (wsOf ε S) 0 0) : V ε κ nL pc lv (.ref (eA ε q) :: st) (wsOf ε S) 0 0 := V_get C inX11 rfl 8 (by decide) hw q (ws_X11 hq) rfl hdg K
theorem P_X11_images {ε : eT} {κ : kT} {cc : ByteArray} {nL d : Nat} {own : String} (C : Act ε κ cc nL own d) {pc : Nat} {lv : List (Nat × Value)} {st : List Value} {S : St} {q : Nat} {index : Nat} {x : Int32} (hq : sh q = 11) (hw : Cond.fieldLink own index "NamedPrices" "images" "I" ∈ tbW) (hdg : decode cc pc = .ok (.putfield index, 3)) (K : V ε κ nL (pc + 3) lv st (wsOf ε (pt S q 8 x)) 0 0) : V ε κ nL pc lv (.int x :: .ref (eA ε q) :: st) (wsOf ε S) 0 0 := V_put C inX11 rfl tyX11 tyX11_ok nmX11 8 (by decide) hw rfl q (ws_X11 hq) rfl rfl rfl (Nat.le_of_ble_eq_true rfl) hdg (ws_set (S' := pt S q 8 x) (by unfold cellOf; rw [hq]; simp [pt, upd]) pt_ne (fun _ _ => rfl)) K
theorem ws_X12 {ε : eT} {S : St} {q : Nat} (hq : sh q = 12) : (wsOf ε S)[q]? = some (eA ε q, .inr (10, [.ref (eA ε 173), .ref (eA ε 174), .ref (eA ε 175), .int (S.1 q 3), .ref (eA ε 176), .int (S.1 q 5), .int (S.1 q 6), .int (S.1 q 7), .int (S.1 q 8), .ref (eA ε 177), .ref (eA ε 178), .ref (eA ε 179), .ref (eA ε 180), .int (S.1 q 13), .int (S.1 q 14), .int (S.1 q 15), .ref (eA ε 181), .ref (eA ε 182), .ref (eA ε 183), .ref (eA ε 184)])) := by rw [ws_at (sh_lt hq (by decide))]; unfold cellOf; rw [hq]; try rfl
theorem G_X12_s {ε : eT} {κ : kT} {cc : ByteArray} {nL d : Nat} {own : String} (C : Act ε κ cc nL own d) {pc : Nat} {lv : List (Nat × Value)} {st : List Value} {S : St} {q : Nat} {index : Nat} (hq : sh q = 12) (hw : Cond.fieldLink own index "NamedPricesModel" "s" "[I" ∈ tbW) (hdg : decode cc pc = .ok (.getfield index, 3)) (K : V ε κ nL (pc + 3) lv (.ref (eA ε 173) :: st) (wsOf ε S) 0 0) : V ε κ nL pc lv (.ref (eA ε q) :: st) (wsOf ε S) 0 0 := V_get C inX12 rfl 0 (by decide) hw q (ws_X12 hq) rfl hdg K
theorem G_X12_kept {ε : eT} {κ : kT} {cc : ByteArray} {nL d : Nat} {own : String} (C : Act ε κ cc nL own d) {pc : Nat} {lv : List (Nat × Value)} {st : List Value} {S : St} {q : Nat} {index : Nat} (hq : sh q = 12) (hw : Cond.fieldLink own index "NamedPricesModel" "kept" "[I" ∈ tbW) (hdg : decode cc pc = .ok (.getfield index, 3)) (K : V ε κ nL (pc + 3) lv (.ref (eA ε 174) :: st) (wsOf ε S) 0 0) : V ε κ nL pc lv (.ref (eA ε q) :: st) (wsOf ε S) 0 0 := V_get C inX12 rfl 1 (by decide) hw q (ws_X12 hq) rfl hdg K
theorem G_X12_put {ε : eT} {κ : kT} {cc : ByteArray} {nL d : Nat} {own : String} (C : Act ε κ cc nL own d) {pc : Nat} {lv : List (Nat × Value)} {st : List Value} {S : St} {q : Nat} {index : Nat} (hq : sh q = 12) (hw : Cond.fieldLink own index "NamedPricesModel" "put" "[I" ∈ tbW) (hdg : decode cc pc = .ok (.getfield index, 3)) (K : V ε κ nL (pc + 3) lv (.ref (eA ε 175) :: st) (wsOf ε S) 0 0) : V ε κ nL pc lv (.ref (eA ε q) :: st) (wsOf ε S) 0 0 := V_get C inX12 rfl 2 (by decide) hw q (ws_X12 hq) rfl hdg K
theorem G_X12_images {ε : eT} {κ : kT} {cc : ByteArray} {nL d : Nat} {own : String} (C : Act ε κ cc nL own d) {pc : Nat} {lv : List (Nat × Value)} {st : List Value} {S : St} {q : Nat} {index : Nat} (hq : sh q = 12) (hw : Cond.fieldLink own index "NamedPricesModel" "images" "I" ∈ tbW) (hdg : decode cc pc = .ok (.getfield index, 3)) (K : V ε κ nL (pc + 3) lv (.int (S.1 q 3) :: st) (wsOf ε S) 0 0) : V ε κ nL pc lv (.ref (eA ε q) :: st) (wsOf ε S) 0 0 := V_get C inX12 rfl 3 (by decide) hw q (ws_X12 hq) rfl hdg K
theorem P_X12_images {ε : eT} {κ : kT} {cc : ByteArray} {nL d : Nat} {own : String} (C : Act ε κ cc nL own d) {pc : Nat} {lv : List (Nat × Value)} {st : List Value} {S : St} {q : Nat} {index : Nat} {x : Int32} (hq : sh q = 12) (hw : Cond.fieldLink own index "NamedPricesModel" "images" "I" ∈ tbW) (hdg : decode cc pc = .ok (.putfield index, 3)) (K : V ε κ nL (pc + 3) lv st (wsOf ε (pt S q 3 x)) 0 0) : V ε κ nL pc lv (.int x :: .ref (eA ε q) :: st) (wsOf ε S) 0 0 := V_put C inX12 rfl tyX12 tyX12_ok nmX12 3 (by decide) hw rfl q (ws_X12 hq) rfl rfl rfl (Nat.le_of_ble_eq_true rfl) hdg (ws_set (S' := pt S q 3 x) (by unfold cellOf; rw [hq]; simp [pt, upd]) pt_ne (fun _ _ => rfl)) K
theorem G_X12_errors {ε : eT} {κ : kT} {cc : ByteArray} {nL d : Nat} {own : String} (C : Act ε κ cc nL own d) {pc : Nat} {lv : List (Nat × Value)} {st : List Value} {S : St} {q : Nat} {index : Nat} (hq : sh q = 12) (hw : Cond.fieldLink own index "NamedPricesModel" "errors" "[I" ∈ tbW) (hdg : decode cc pc = .ok (.getfield index, 3)) (K : V ε κ nL (pc + 3) lv (.ref (eA ε 176) :: st) (wsOf ε S) 0 0) : V ε κ nL pc lv (.ref (eA ε q) :: st) (wsOf ε S) 0 0 := V_get C inX12 rfl 4 (by decide) hw q (ws_X12 hq) rfl hdg K
theorem G_X12_at {ε : eT} {κ : kT} {cc : ByteArray} {nL d : Nat} {own : String} (C : Act ε κ cc nL own d) {pc : Nat} {lv : List (Nat × Value)} {st : List Value} {S : St} {q : Nat} {index : Nat} (hq : sh q = 12) (hw : Cond.fieldLink own index "NamedPricesModel" "at" "I" ∈ tbW) (hdg : decode cc pc = .ok (.getfield index, 3)) (K : V ε κ nL (pc + 3) lv (.int (S.1 q 5) :: st) (wsOf ε S) 0 0) : V ε κ nL pc lv (.ref (eA ε q) :: st) (wsOf ε S) 0 0 := V_get C inX12 rfl 5 (by decide) hw q (ws_X12 hq) rfl hdg K
theorem P_X12_at {ε : eT} {κ : kT} {cc : ByteArray} {nL d : Nat} {own : String} (C : Act ε κ cc nL own d) {pc : Nat} {lv : List (Nat × Value)} {st : List Value} {S : St} {q : Nat} {index : Nat} {x : Int32} (hq : sh q = 12) (hw : Cond.fieldLink own index "NamedPricesModel" "at" "I" ∈ tbW) (hdg : decode cc pc = .ok (.putfield index, 3)) (K : V ε κ nL (pc + 3) lv st (wsOf ε (pt S q 5 x)) 0 0) : V ε κ nL pc lv (.int x :: .ref (eA ε q) :: st) (wsOf ε S) 0 0 := V_put C inX12 rfl tyX12 tyX12_ok nmX12 5 (by decide) hw rfl q (ws_X12 hq) rfl rfl rfl (Nat.le_of_ble_eq_true rfl) hdg (ws_set (S' := pt S q 5 x) (by unfold cellOf; rw [hq]; simp [pt, upd]) pt_ne (fun _ _ => rfl)) K
theorem G_X12_open {ε : eT} {κ : kT} {cc : ByteArray} {nL d : Nat} {own : String} (C : Act ε κ cc nL own d) {pc : Nat} {lv : List (Nat × Value)} {st : List Value} {S : St} {q : Nat} {index : Nat} (hq : sh q = 12) (hw : Cond.fieldLink own index "NamedPricesModel" "open" "I" ∈ tbW) (hdg : decode cc pc = .ok (.getfield index, 3)) (K : V ε κ nL (pc + 3) lv (.int (S.1 q 6) :: st) (wsOf ε S) 0 0) : V ε κ nL pc lv (.ref (eA ε q) :: st) (wsOf ε S) 0 0 := V_get C inX12 rfl 6 (by decide) hw q (ws_X12 hq) rfl hdg K
theorem P_X12_open {ε : eT} {κ : kT} {cc : ByteArray} {nL d : Nat} {own : String} (C : Act ε κ cc nL own d) {pc : Nat} {lv : List (Nat × Value)} {st : List Value} {S : St} {q : Nat} {index : Nat} {x : Int32} (hq : sh q = 12) (hw : Cond.fieldLink own index "NamedPricesModel" "open" "I" ∈ tbW) (hdg : decode cc pc = .ok (.putfield index, 3)) (K : V ε κ nL (pc + 3) lv st (wsOf ε (pt S q 6 x)) 0 0) : V ε κ nL pc lv (.int x :: .ref (eA ε q) :: st) (wsOf ε S) 0 0 := V_put C inX12 rfl tyX12 tyX12_ok nmX12 6 (by decide) hw rfl q (ws_X12 hq) rfl rfl rfl (Nat.le_of_ble_eq_true rfl) hdg (ws_set (S' := pt S q 6 x) (by unfold cellOf; rw [hq]; simp [pt, upd]) pt_ne (fun _ _ => rfl)) K
theorem G_X12_steps {ε : eT} {κ : kT} {cc : ByteArray} {nL d : Nat} {own : String} (C : Act ε κ cc nL own d) {pc : Nat} {lv : List (Nat × Value)} {st : List Value} {S : St} {q : Nat} {index : Nat} (hq : sh q = 12) (hw : Cond.fieldLink own index "NamedPricesModel" "steps" "I" ∈ tbW) (hdg : decode cc pc = .ok (.getfield index, 3)) (K : V ε κ nL (pc + 3) lv (.int (S.1 q 7) :: st) (wsOf ε S) 0 0) : V ε κ nL pc lv (.ref (eA ε q) :: st) (wsOf ε S) 0 0 := V_get C inX12 rfl 7 (by decide) hw q (ws_X12 hq) rfl hdg K
theorem P_X12_steps {ε : eT} {κ : kT} {cc : ByteArray} {nL d : Nat} {own : String} (C : Act ε κ cc nL own d) {pc : Nat} {lv : List (Nat × Value)} {st : List Value} {S : St} {q : Nat} {index : Nat} {x : Int32} (hq : sh q = 12) (hw : Cond.fieldLink own index "NamedPricesModel" "steps" "I" ∈ tbW) (hdg : decode cc pc = .ok (.putfield index, 3)) (K : V ε κ nL (pc + 3) lv st (wsOf ε (pt S q 7 x)) 0 0) : V ε κ nL pc lv (.int x :: .ref (eA ε q) :: st) (wsOf ε S) 0 0 := V_put C inX12 rfl tyX12 tyX12_ok nmX12 7 (by decide) hw rfl q (ws_X12 hq) rfl rfl rfl (Nat.le_of_ble_eq_true rfl) hdg (ws_set (S' := pt S q 7 x) (by unfold cellOf; rw [hq]; simp [pt, upd]) pt_ne (fun _ _ => rfl)) K
theorem G_X12_use {ε : eT} {κ : kT} {cc : ByteArray} {nL d : Nat} {own : String} (C : Act ε κ cc nL own d) {pc : Nat} {lv : List (Nat × Value)} {st : List Value} {S : St} {q : Nat} {index : Nat} (hq : sh q = 12) (hw : Cond.fieldLink own index "NamedPricesModel" "use" "I" ∈ tbW) (hdg : decode cc pc = .ok (.getfield index, 3)) (K : V ε κ nL (pc + 3) lv (.int (S.1 q 8) :: st) (wsOf ε S) 0 0) : V ε κ nL pc lv (.ref (eA ε q) :: st) (wsOf ε S) 0 0 := V_get C inX12 rfl 8 (by decide) hw q (ws_X12 hq) rfl hdg K
theorem P_X12_use {ε : eT} {κ : kT} {cc : ByteArray} {nL d : Nat} {own : String} (C : Act ε κ cc nL own d) {pc : Nat} {lv : List (Nat × Value)} {st : List Value} {S : St} {q : Nat} {index : Nat} {x : Int32} (hq : sh q = 12) (hw : Cond.fieldLink own index "NamedPricesModel" "use" "I" ∈ tbW) (hdg : decode cc pc = .ok (.putfield index, 3)) (K : V ε κ nL (pc + 3) lv st (wsOf ε (pt S q 8 x)) 0 0) : V ε κ nL pc lv (.int x :: .ref (eA ε q) :: st) (wsOf ε S) 0 0 := V_put C inX12 rfl tyX12 tyX12_ok nmX12 8 (by decide) hw rfl q (ws_X12 hq) rfl rfl rfl (Nat.le_of_ble_eq_true rfl) hdg (ws_set (S' := pt S q 8 x) (by unfold cellOf; rw [hq]; simp [pt, upd]) pt_ne (fun _ _ => rfl)) K
theorem G_X12_step {ε : eT} {κ : kT} {cc : ByteArray} {nL d : Nat} {own : String} (C : Act ε κ cc nL own d) {pc : Nat} {lv : List (Nat × Value)} {st : List Value} {S : St} {q : Nat} {index : Nat} (hq : sh q = 12) (hw : Cond.fieldLink own index "NamedPricesModel" "step" "[I" ∈ tbW) (hdg : decode cc pc = .ok (.getfield index, 3)) (K : V ε κ nL (pc + 3) lv (.ref (eA ε 177) :: st) (wsOf ε S) 0 0) : V ε κ nL pc lv (.ref (eA ε q) :: st) (wsOf ε S) 0 0 := V_get C inX12 rfl 9 (by decide) hw q (ws_X12 hq) rfl hdg K
theorem G_X12_named {ε : eT} {κ : kT} {cc : ByteArray} {nL d : Nat} {own : String} (C : Act ε κ cc nL own d) {pc : Nat} {lv : List (Nat × Value)} {st : List Value} {S : St} {q : Nat} {index : Nat} (hq : sh q = 12) (hw : Cond.fieldLink own index "NamedPricesModel" "named" "[I" ∈ tbW) (hdg : decode cc pc = .ok (.getfield index, 3)) (K : V ε κ nL (pc + 3) lv (.ref (eA ε 178) :: st) (wsOf ε S) 0 0) : V ε κ nL pc lv (.ref (eA ε q) :: st) (wsOf ε S) 0 0 := V_get C inX12 rfl 10 (by decide) hw q (ws_X12 hq) rfl hdg K
theorem G_X12_pile {ε : eT} {κ : kT} {cc : ByteArray} {nL d : Nat} {own : String} (C : Act ε κ cc nL own d) {pc : Nat} {lv : List (Nat × Value)} {st : List Value} {S : St} {q : Nat} {index : Nat} (hq : sh q = 12) (hw : Cond.fieldLink own index "NamedPricesModel" "pile" "[I" ∈ tbW) (hdg : decode cc pc = .ok (.getfield index, 3)) (K : V ε κ nL (pc + 3) lv (.ref (eA ε 179) :: st) (wsOf ε S) 0 0) : V ε κ nL pc lv (.ref (eA ε q) :: st) (wsOf ε S) 0 0 := V_get C inX12 rfl 11 (by decide) hw q (ws_X12 hq) rfl hdg K
theorem G_X12_trace {ε : eT} {κ : kT} {cc : ByteArray} {nL d : Nat} {own : String} (C : Act ε κ cc nL own d) {pc : Nat} {lv : List (Nat × Value)} {st : List Value} {S : St} {q : Nat} {index : Nat} (hq : sh q = 12) (hw : Cond.fieldLink own index "NamedPricesModel" "trace" "[I" ∈ tbW) (hdg : decode cc pc = .ok (.getfield index, 3)) (K : V ε κ nL (pc + 3) lv (.ref (eA ε 180) :: st) (wsOf ε S) 0 0) : V ε κ nL pc lv (.ref (eA ε q) :: st) (wsOf ε S) 0 0 := V_get C inX12 rfl 12 (by decide) hw q (ws_X12 hq) rfl hdg K
theorem G_X12_traced {ε : eT} {κ : kT} {cc : ByteArray} {nL d : Nat} {own : String} (C : Act ε κ cc nL own d) {pc : Nat} {lv : List (Nat × Value)} {st : List Value} {S : St} {q : Nat} {index : Nat} (hq : sh q = 12) (hw : Cond.fieldLink own index "NamedPricesModel" "traced" "I" ∈ tbW) (hdg : decode cc pc = .ok (.getfield index, 3)) (K : V ε κ nL (pc + 3) lv (.int (S.1 q 13) :: st) (wsOf ε S) 0 0) : V ε κ nL pc lv (.ref (eA ε q) :: st) (wsOf ε S) 0 0 := V_get C inX12 rfl 13 (by decide) hw q (ws_X12 hq) rfl hdg K
theorem P_X12_traced {ε : eT} {κ : kT} {cc : ByteArray} {nL d : Nat} {own : String} (C : Act ε κ cc nL own d) {pc : Nat} {lv : List (Nat × Value)} {st : List Value} {S : St} {q : Nat} {index : Nat} {x : Int32} (hq : sh q = 12) (hw : Cond.fieldLink own index "NamedPricesModel" "traced" "I" ∈ tbW) (hdg : decode cc pc = .ok (.putfield index, 3)) (K : V ε κ nL (pc + 3) lv st (wsOf ε (pt S q 13 x)) 0 0) : V ε κ nL pc lv (.int x :: .ref (eA ε q) :: st) (wsOf ε S) 0 0 := V_put C inX12 rfl tyX12 tyX12_ok nmX12 13 (by decide) hw rfl q (ws_X12 hq) rfl rfl rfl (Nat.le_of_ble_eq_true rfl) hdg (ws_set (S' := pt S q 13 x) (by unfold cellOf; rw [hq]; simp [pt, upd]) pt_ne (fun _ _ => rfl)) K
theorem G_X12_speaks {ε : eT} {κ : kT} {cc : ByteArray} {nL d : Nat} {own : String} (C : Act ε κ cc nL own d) {pc : Nat} {lv : List (Nat × Value)} {st : List Value} {S : St} {q : Nat} {index : Nat} (hq : sh q = 12) (hw : Cond.fieldLink own index "NamedPricesModel" "speaks" "I" ∈ tbW) (hdg : decode cc pc = .ok (.getfield index, 3)) (K : V ε κ nL (pc + 3) lv (.int (S.1 q 14) :: st) (wsOf ε S) 0 0) : V ε κ nL pc lv (.ref (eA ε q) :: st) (wsOf ε S) 0 0 := V_get C inX12 rfl 14 (by decide) hw q (ws_X12 hq) rfl hdg K
theorem P_X12_speaks {ε : eT} {κ : kT} {cc : ByteArray} {nL d : Nat} {own : String} (C : Act ε κ cc nL own d) {pc : Nat} {lv : List (Nat × Value)} {st : List Value} {S : St} {q : Nat} {index : Nat} {x : Int32} (hq : sh q = 12) (hw : Cond.fieldLink own index "NamedPricesModel" "speaks" "I" ∈ tbW) (hdg : decode cc pc = .ok (.putfield index, 3)) (K : V ε κ nL (pc + 3) lv st (wsOf ε (pt S q 14 x)) 0 0) : V ε κ nL pc lv (.int x :: .ref (eA ε q) :: st) (wsOf ε S) 0 0 := V_put C inX12 rfl tyX12 tyX12_ok nmX12 14 (by decide) hw rfl q (ws_X12 hq) rfl rfl rfl (Nat.le_of_ble_eq_true rfl) hdg (ws_set (S' := pt S q 14 x) (by unfold cellOf; rw [hq]; simp [pt, upd]) pt_ne (fun _ _ => rfl)) K
theorem G_X12_isParted {ε : eT} {κ : kT} {cc : ByteArray} {nL d : Nat} {own : String} (C : Act ε κ cc nL own d) {pc : Nat} {lv : List (Nat × Value)} {st : List Value} {S : St} {q : Nat} {index : Nat} (hq : sh q = 12) (hw : Cond.fieldLink own index "NamedPricesModel" "isParted" "Z" ∈ tbW) (hdg : decode cc pc = .ok (.getfield index, 3)) (K : V ε κ nL (pc + 3) lv (.int (S.1 q 15) :: st) (wsOf ε S) 0 0) : V ε κ nL pc lv (.ref (eA ε q) :: st) (wsOf ε S) 0 0 := V_get C inX12 rfl 15 (by decide) hw q (ws_X12 hq) rfl hdg K
theorem P_X12_isParted {ε : eT} {κ : kT} {cc : ByteArray} {nL d : Nat} {own : String} (C : Act ε κ cc nL own d) {pc : Nat} {lv : List (Nat × Value)} {st : List Value} {S : St} {q : Nat} {index : Nat} {x : Int32} (hb : narrow .boolean (.int x) = .int x) (hb2 : fits .boolean (.int x) = true) (hq : sh q = 12) (hw : Cond.fieldLink own index "NamedPricesModel" "isParted" "Z" ∈ tbW) (hdg : decode cc pc = .ok (.putfield index, 3)) (K : V ε κ nL (pc + 3) lv st (wsOf ε (pt S q 15 x)) 0 0) : V ε κ nL pc lv (.int x :: .ref (eA ε q) :: st) (wsOf ε S) 0 0 := V_put C inX12 rfl tyX12 tyX12_ok nmX12 15 (by decide) hw rfl q (ws_X12 hq) rfl hb hb2 (Nat.le_of_ble_eq_true rfl) hdg (ws_set (S' := pt S q 15 x) (by unfold cellOf; rw [hq]; simp [pt, upd]) pt_ne (fun _ _ => rfl)) K
theorem G_X12_bits {ε : eT} {κ : kT} {cc : ByteArray} {nL d : Nat} {own : String} (C : Act ε κ cc nL own d) {pc : Nat} {lv : List (Nat × Value)} {st : List Value} {S : St} {q : Nat} {index : Nat} (hq : sh q = 12) (hw : Cond.fieldLink own index "NamedPricesModel" "bits" "[I" ∈ tbW) (hdg : decode cc pc = .ok (.getfield index, 3)) (K : V ε κ nL (pc + 3) lv (.ref (eA ε 181) :: st) (wsOf ε S) 0 0) : V ε κ nL pc lv (.ref (eA ε q) :: st) (wsOf ε S) 0 0 := V_get C inX12 rfl 16 (by decide) hw q (ws_X12 hq) rfl hdg K
theorem G_X12_sizes {ε : eT} {κ : kT} {cc : ByteArray} {nL d : Nat} {own : String} (C : Act ε κ cc nL own d) {pc : Nat} {lv : List (Nat × Value)} {st : List Value} {S : St} {q : Nat} {index : Nat} (hq : sh q = 12) (hw : Cond.fieldLink own index "NamedPricesModel" "sizes" "[I" ∈ tbW) (hdg : decode cc pc = .ok (.getfield index, 3)) (K : V ε κ nL (pc + 3) lv (.ref (eA ε 182) :: st) (wsOf ε S) 0 0) : V ε κ nL pc lv (.ref (eA ε q) :: st) (wsOf ε S) 0 0 := V_get C inX12 rfl 17 (by decide) hw q (ws_X12 hq) rfl hdg K
theorem G_X12_number {ε : eT} {κ : kT} {cc : ByteArray} {nL d : Nat} {own : String} (C : Act ε κ cc nL own d) {pc : Nat} {lv : List (Nat × Value)} {st : List Value} {S : St} {q : Nat} {index : Nat} (hq : sh q = 12) (hw : Cond.fieldLink own index "NamedPricesModel" "number" "[I" ∈ tbW) (hdg : decode cc pc = .ok (.getfield index, 3)) (K : V ε κ nL (pc + 3) lv (.ref (eA ε 183) :: st) (wsOf ε S) 0 0) : V ε κ nL pc lv (.ref (eA ε q) :: st) (wsOf ε S) 0 0 := V_get C inX12 rfl 18 (by decide) hw q (ws_X12 hq) rfl hdg K
theorem G_X12_aside {ε : eT} {κ : kT} {cc : ByteArray} {nL d : Nat} {own : String} (C : Act ε κ cc nL own d) {pc : Nat} {lv : List (Nat × Value)} {st : List Value} {S : St} {q : Nat} {index : Nat} (hq : sh q = 12) (hw : Cond.fieldLink own index "NamedPricesModel" "aside" "[I" ∈ tbW) (hdg : decode cc pc = .ok (.getfield index, 3)) (K : V ε κ nL (pc + 3) lv (.ref (eA ε 184) :: st) (wsOf ε S) 0 0) : V ε κ nL pc lv (.ref (eA ε q) :: st) (wsOf ε S) 0 0 := V_get C inX12 rfl 19 (by decide) hw q (ws_X12 hq) rfl hdg K
theorem G_X7_codeN {ε : eT} {κ : kT} {cc : ByteArray} {nL d : Nat} {own : String} (C : Act ε κ cc nL own d) {pc : Nat} {lv : List (Nat × Value)} {st : List Value} {S : St} {q : Nat} {index : Nat} {host : String} (hq : sh q = 7) (hw : va_Nw (.fieldLinkNest own index "NamedPrices$Text" "code" "LNamedPrices$Row;" host) (ks κ)) (hdg : decode cc pc = .ok (.getfield index, 3)) (K : V ε κ nL (pc + 3) lv (.ref (eA ε (q + 1)) :: st) (wsOf ε S) 0 0) : V ε κ nL pc lv (.ref (eA ε q) :: st) (wsOf ε S) 0 0 := V_getN C inX7 rfl 0 (by decide) hw q (ws_X7 hq) rfl hdg K
theorem ws_I {ε : eT} {S : St} {q : Nat} (hq : sh q = 0) : (wsOf ε S)[q]? = some (eA ε q, .inl (eI ε, ln q, .inl (S.1 q))) := by rw [ws_at (sh_lt hq (by decide))]; unfold cellOf; rw [hq]; try rfl
theorem ws_S {ε : eT} {S : St} {q : Nat} (hq : sh q = 1) : (wsOf ε S)[q]? = some (eA ε q, .inl (eS ε, 4, .inr (.inr (.inr (.inr (shf (fun k => eA ε (q + k)) 0)))))) := by rw [ws_at (sh_lt hq (by decide))]; unfold cellOf; rw [hq]; try rfl
theorem W_iald {ε : eT} {κ : kT} {cc : ByteArray} {nL d : Nat} {own : String} (C : Act ε κ cc nL own d) {pc : Nat} {lv : List (Nat × Value)} {st : List Value} {S : St} {q : Nat} {i : Int32} (hq : sh q = 0) (hin : inb i (ln q) = true) (hdg : decode cc pc = .ok (.iaload, 1)) (K : V ε κ nL (pc + 1) lv (.int (S.1 q i.toNatClampNeg) :: st) (wsOf ε S) 0 0) : V ε κ nL pc lv (.int i :: .ref (eA ε q) :: st) (wsOf ε S) 0 0 := V_iald C q (ws_I hq) (inb_in hin) hdg K
theorem W_iast {ε : eT} {κ : kT} {cc : ByteArray} {nL d : Nat} {own : String} (C : Act ε κ cc nL own d) {pc : Nat} {lv : List (Nat × Value)} {st : List Value} {S : St} {q : Nat} {i x : Int32} (hq : sh q = 0) (hin : inb i (ln q) = true) (hdg : decode cc pc = .ok (.iastore, 1)) (K : V ε κ nL (pc + 1) lv st (wsOf ε (pt S q i.toNatClampNeg x)) 0 0) : V ε κ nL pc lv (.int x :: .int i :: .ref (eA ε q) :: st) (wsOf ε S) 0 0 := V_iast C q (ws_I hq) (inb_in hin) hdg (ws_set (S' := pt S q i.toNatClampNeg x) (by unfold cellOf; rw [hq]; simp [pt]) pt_ne (fun _ _ => rfl)) K
theorem W_alen {ε : eT} {κ : kT} {cc : ByteArray} {nL d : Nat} {own : String} (C : Act ε κ cc nL own d) {pc : Nat} {lv : List (Nat × Value)} {st : List Value} {S : St} {q : Nat} (hq : sh q = 0) (hdg : decode cc pc = .ok (.arraylength, 1)) (K : V ε κ nL (pc + 1) lv (.int (Int32.ofNat (ln q)) :: st) (wsOf ε S) 0 0) : V ε κ nL pc lv (.ref (eA ε q) :: st) (wsOf ε S) 0 0 := V_alen C q (ws_I hq) hdg K
theorem W_alenS {ε : eT} {κ : kT} {cc : ByteArray} {nL d : Nat} {own : String} (C : Act ε κ cc nL own d) {pc : Nat} {lv : List (Nat × Value)} {st : List Value} {S : St} {q : Nat} (hq : sh q = 1) (hdg : decode cc pc = .ok (.arraylength, 1)) (K : V ε κ nL (pc + 1) lv (.int (Int32.ofNat 4) :: st) (wsOf ε S) 0 0) : V ε κ nL pc lv (.ref (eA ε q) :: st) (wsOf ε S) 0 0 := V_alenS C q (ws_S hq) hdg K
theorem shf_at {al : Nat → Nat} {q : Nat} {i : Int32} (h : inb i 4 = true) : shf (fun k => al (q + k)) 0 i.toNatClampNeg = some (al (q + 1 + 3 * i.toNatClampNeg)) := by
  have h1 : i.toNatClampNeg < 4 := Nat.not_le.mp fun g => inb_in h (Or.inr g)
  generalize i.toNatClampNeg = j at h1 ⊢
  have : j = 0 ∨ j = 1 ∨ j = 2 ∨ j = 3 := by omega
  rcases this with rfl | rfl | rfl | rfl <;> rfl
theorem W_aaldS {ε : eT} {κ : kT} {cc : ByteArray} {nL d : Nat} {own : String} (C : Act ε κ cc nL own d) {pc : Nat} {lv : List (Nat × Value)} {st : List Value} {S : St} {q : Nat} {i : Int32} (hq : sh q = 1) (hin : inb i 4 = true) (hdg : decode cc pc = .ok (.aaload, 1)) (K : V ε κ nL (pc + 1) lv (.ref (eA ε (q + 1 + 3 * i.toNatClampNeg)) :: st) (wsOf ε S) 0 0) : V ε κ nL pc lv (.int i :: .ref (eA ε q) :: st) (wsOf ε S) 0 0 := V_aaldS C q (ws_S hq) (inb_in hin) (shf_at hin) hdg K
theorem W_copyi {ε : eT} {κ : kT} {cc : ByteArray} {nL d : Nat} {own : String} (C : Act ε κ cc nL own d) {pc : Nat} {lv : List (Nat × Value)} {st : List Value} {S : St} {q : Nat} {q1 i : Nat} {sp dp z : Int32} (hq : sh q = 0) (hq1 : sh q1 = 0) (hl : Cond.methodLink own i arraycopyName ∈ tbW) (hd : 1 ≤ d) (h1 : ¬ sp < 0) (h2 : ¬ dp < 0) (h3 : ¬ z < 0) (h4 : sp.toNatClampNeg + z.toNatClampNeg ≤ ln q) (h5 : dp.toNatClampNeg + z.toNatClampNeg ≤ ln q1) (hw : (st.map fun v => v.category).sum ≤ 8) (hdg : decode cc pc = .ok (.invokestatic i, 3)) (K : V ε κ nL (pc + 3) lv st (wsOf ε (pa S q1 (va_cpy (S.1 q) (S.1 q1) sp.toNatClampNeg dp.toNatClampNeg z.toNatClampNeg))) 0 0) : V ε κ nL pc lv (.int z :: .int dp :: .ref (eA ε q1) :: .int sp :: .ref (eA ε q) :: st) (wsOf ε S) 0 0 := V_copyi C hl hd q q1 (ws_I hq) (ws_I hq1) h1 h2 h3 h4 h5 hw hdg (ws_set (S' := pa S q1 (va_cpy (S.1 q) (S.1 q1) sp.toNatClampNeg dp.toNatClampNeg z.toNatClampNeg)) (by unfold cellOf; rw [hq1]; simp [pa]) pa_ne (fun _ _ => rfl)) K
theorem W_ialdc {ε : eT} {κ : kT} {cc : ByteArray} {nL d : Nat} {own : String} (C : Act ε κ cc nL own d) {pc : Nat} {lv : List (Nat × Value)} {st : List Value} {S : St} {q : Nat} {i : Int32} {j : Nat} (hq : sh q = 0) (hj : i.toNatClampNeg = j) (hin : inb i (ln q) = true) (hdg : decode cc pc = .ok (.iaload, 1)) (K : V ε κ nL (pc + 1) lv (.int (S.1 q j) :: st) (wsOf ε S) 0 0) : V ε κ nL pc lv (.int i :: .ref (eA ε q) :: st) (wsOf ε S) 0 0 := by subst hj; exact W_iald C hq hin hdg K
theorem W_iastc {ε : eT} {κ : kT} {cc : ByteArray} {nL d : Nat} {own : String} (C : Act ε κ cc nL own d) {pc : Nat} {lv : List (Nat × Value)} {st : List Value} {S : St} {q : Nat} {i x : Int32} {j : Nat} (hq : sh q = 0) (hj : i.toNatClampNeg = j) (hin : inb i (ln q) = true) (hdg : decode cc pc = .ok (.iastore, 1)) (K : V ε κ nL (pc + 1) lv st (wsOf ε (pt S q j x)) 0 0) : V ε κ nL pc lv (.int x :: .int i :: .ref (eA ε q) :: st) (wsOf ε S) 0 0 := by subst hj; exact W_iast C hq hin hdg K
theorem bnd2_s {α β γ : Type} {x : Option (α × β)} {f : α → β → Option γ} {r : γ} (h : bnd2 x f = some r) : ∃ a b, x = some (a, b) ∧ f a b = some r := by
  obtain ⟨⟨a, b⟩, h1, h2⟩ := bnd_s h
  exact ⟨a, b, h1, h2⟩
def oel {α : Type} (o : Option Nat) (a : Option α) (f : Nat → Option α) : Option α := match o with
  | none => a
  | some q => f q
theorem oel_n {α : Type} {a : Option α} {f : Nat → Option α} {r : Option α} (h : oel none a f = r) : a = r := h
theorem oel_s {α : Type} {q : Nat} {a : Option α} {f : Nat → Option α} {r : Option α} (h : oel (some q) a f = r) : f q = r := h
def cpok (sp dp z : Int32) (n0 n1 : Nat) : Bool := decide (¬ sp < 0) && (decide (¬ dp < 0) && (decide (¬ z < 0) && (decide (sp.toNatClampNeg + z.toNatClampNeg ≤ n0) && decide (dp.toNatClampNeg + z.toNatClampNeg ≤ n1))))
theorem cpok_s {sp dp z : Int32} {n0 n1 : Nat} (h : cpok sp dp z n0 n1 = true) : ¬ sp < 0 ∧ ¬ dp < 0 ∧ ¬ z < 0 ∧ sp.toNatClampNeg + z.toNatClampNeg ≤ n0 ∧ dp.toNatClampNeg + z.toNatClampNeg ≤ n1 := by
  unfold cpok at h
  simp only [Bool.and_eq_true, decide_eq_true_eq] at h
  exact h
def bo (v : Int32) : Bool := decide (v = 0 ∨ v = 1)
theorem nb_v {v : Int32} (h : bo v = true) : narrow .boolean (.int v) = .int v := by
  rcases of_decide_eq_true h with rfl | rfl <;> decide
theorem fb_v {v : Int32} (h : bo v = true) : fits .boolean (.int v) = true := by
  rcases of_decide_eq_true h with rfl | rfl <;> decide
theorem nb_0 : narrow .boolean (.int 0) = .int 0 := nb_v (by decide)
theorem nb_1 : narrow .boolean (.int 1) = .int 1 := nb_v (by decide)
theorem fb_0 : fits .boolean (.int 0) = true := fb_v (by decide)
theorem fb_1 : fits .boolean (.int 1) = true := fb_v (by decide)
def rvO (ε : eT) (o : Option Nat) : Option Value := match o with
  | none => some .null
  | some q => some (.ref (eA ε q))
theorem ri_1 {a : Int32} {S : St} {res : Int32 × St} (h : some (a, S) = some res) : (some (.int a) : Option Value) = some (.int res.1) := by cases h; rfl
theorem ri_2 {α : Type} {ε : eT} {a : α} {S : St} {res : α × St} (h : some (a, S) = some res) : wsOf ε S = wsOf ε res.2 := by cases h; rfl
theorem rip_1 {a res : Int32} (h : some a = some res) : (some (.int a) : Option Value) = some (.int res) := by cases h; rfl
theorem rl_1 {a : Int64} {S : St} {res : Int64 × St} (h : some (a, S) = some res) : (some (.long a) : Option Value) = some (.long res.1) := by cases h; rfl
theorem rlp_1 {a res : Int64} (h : some a = some res) : (some (.long a) : Option Value) = some (.long res) := by cases h; rfl
theorem rv_2 {ε : eT} {S res : St} (h : some S = some res) : wsOf ε S = wsOf ε res := by cases h; rfl
theorem rO_n {ε : eT} {res : Option Nat} (h : some none = some res) : (some .null : Option Value) = rvO ε res := by cases h; rfl
theorem rO_s {ε : eT} {q : Nat} {res : Option Nat} (h : some (some q) = some res) : (some (.ref (eA ε q)) : Option Value) = rvO ε res := by cases h; rfl
theorem rA_s {ε : eT} {q res : Nat} (h : some q = some res) : (some (.ref (eA ε q)) : Option Value) = some (.ref (eA ε res)) := by cases h; rfl
def idxS (w : Nat) (c : Int32) : Int32 := if w = 2 then (if c = 118 then 0 else if c = 109 then 1 else if c = 112 then 2 else if c = 114 then 3 else if c = 121 then 4 else -1) else (if c = 118 then 0 else if c = 115 then 1 else if c = 99 then 2 else if c = 117 then 3 else if c = 114 then 4 else -1)
theorem lks_d {dflt : Int} {ps : Array (Int × Int)} {x : Int32} (keys : List Int32) (hk : ∀ y ∈ keys, x ≠ y) (hc : ps.toList.all (fun q => keys.any (fun y => y.toInt == q.1)) = true) : Op.lookupswitch.offset ps.toList dflt x.toInt = dflt := by
  have key : ∀ l : List (Int × Int), l.all (fun q => keys.any (fun y => y.toInt == q.1)) = true → Op.lookupswitch.offset l dflt x.toInt = dflt := by
    intro l
    induction l with
    | nil => intro _; rfl
    | cons q l ih =>
      intro h
      simp only [List.all_cons, Bool.and_eq_true] at h
      obtain ⟨y, hy, e⟩ := List.any_eq_true.mp h.1
      have hne : x.toInt ≠ q.1 := fun z => hk y hy (Int32.toInt_inj.mp (by rw [z]; exact (eq_of_beq e).symm))
      have h2 := ih h.2
      obtain ⟨a, o⟩ := q
      show (if a = x.toInt then o else Op.lookupswitch.offset l dflt x.toInt) = dflt
      rw [if_neg (fun z => hne z.symm)]
      exact h2
  exact key _ hc
theorem cf_X0_goBy : CFs yX0_goBy cX0_goBy 3 none 2 := ⟨⟨q_code_X0_goBy, q_init_X0, ⟨by decide, by decide, by decide +kernel⟩, by decide⟩, q_st_X0_goBy⟩
theorem cf_X0_nameAll : CFs yX0_nameAll cX0_nameAll 2 none 1 := ⟨⟨q_code_X0_nameAll, q_init_X0, ⟨by decide, by decide, by decide +kernel⟩, by decide⟩, q_st_X0_nameAll⟩
theorem cf_X0_payAll : CFs yX0_payAll cX0_payAll 5 none 1 := ⟨⟨q_code_X0_payAll, q_init_X0, ⟨by decide, by decide, by decide +kernel⟩, by decide⟩, q_st_X0_payAll⟩
theorem cf_X0_sellAll : CFs yX0_sellAll cX0_sellAll 2 none 1 := ⟨⟨q_code_X0_sellAll, q_init_X0, ⟨by decide, by decide, by decide +kernel⟩, by decide⟩, q_st_X0_sellAll⟩
theorem cf_X0_offer : CFs yX0_offer cX0_offer 6 none 2 := ⟨⟨q_code_X0_offer, q_init_X0, ⟨by decide, by decide, by decide +kernel⟩, by decide⟩, q_st_X0_offer⟩
theorem cf_X0_sell : CFs yX0_sell cX0_sell 5 none 3 := ⟨⟨q_code_X0_sell, q_init_X0, ⟨by decide, by decide, by decide +kernel⟩, by decide⟩, q_st_X0_sell⟩
theorem cf_X0_mendAll : CFs yX0_mendAll cX0_mendAll 3 none 1 := ⟨⟨q_code_X0_mendAll, q_init_X0, ⟨by decide, by decide, by decide +kernel⟩, by decide⟩, q_st_X0_mendAll⟩
theorem cf_X0_sharePot : CFs yX0_sharePot cX0_sharePot 4 none 1 := ⟨⟨q_code_X0_sharePot, q_init_X0, ⟨by decide, by decide, by decide +kernel⟩, by decide⟩, q_st_X0_sharePot⟩
theorem cf_X1_isOne : CFs yX1_isOne cX1_isOne 1 (some .boolean) 1 := ⟨⟨q_code_X1_isOne, q_init_X1, ⟨by decide, by decide, by decide +kernel⟩, by decide⟩, q_st_X1_isOne⟩
theorem cf_X1_above : CFs yX1_above cX1_above 1 (some .int) 1 := ⟨⟨q_code_X1_above, q_init_X1, ⟨by decide, by decide, by decide +kernel⟩, by decide⟩, q_st_X1_above⟩
theorem cf_X1_isUnder : CFs yX1_isUnder cX1_isUnder 4 (some .boolean) 2 := ⟨⟨q_code_X1_isUnder, q_init_X1, ⟨by decide, by decide, by decide +kernel⟩, by decide⟩, q_st_X1_isUnder⟩
theorem cf_X2_init : CFi yX2_init cX2_init 1 0 := ⟨⟨q_code_X2_init, q_init_X2, ⟨by decide, by decide, by decide +kernel⟩, by decide⟩, q_im_X2_init, rfl⟩
theorem cf_X2_look : CFv yX2_look cX2_look 6 none 2 := ⟨⟨q_code_X2_look, q_init_X2, ⟨by decide, by decide, by decide +kernel⟩, by decide⟩, q_im_X2_look, q_sel_X2_look⟩
theorem cf_X2_leftAt : CFv yX2_leftAt cX2_leftAt 5 (some .long) 1 := ⟨⟨q_code_X2_leftAt, q_init_X2, ⟨by decide, by decide, by decide +kernel⟩, by decide⟩, q_im_X2_leftAt, q_sel_X2_leftAt⟩
theorem cf_X2_gainAt : CFv yX2_gainAt cX2_gainAt 5 (some .long) 2 := ⟨⟨q_code_X2_gainAt, q_init_X2, ⟨by decide, by decide, by decide +kernel⟩, by decide⟩, q_im_X2_gainAt, q_sel_X2_gainAt⟩
theorem cf_X2_bestPrice : CFv yX2_bestPrice cX2_bestPrice 9 (some .int) 1 := ⟨⟨q_code_X2_bestPrice, q_init_X2, ⟨by decide, by decide, by decide +kernel⟩, by decide⟩, q_im_X2_bestPrice, q_sel_X2_bestPrice⟩
theorem cf_X2_candidate : CFv yX2_candidate cX2_candidate 2 (some .int) 1 := ⟨⟨q_code_X2_candidate, q_init_X2, ⟨by decide, by decide, by decide +kernel⟩, by decide⟩, q_im_X2_candidate, q_sel_X2_candidate⟩
theorem cf_X3_init : CFi yX3_init cX3_init 1 0 := ⟨⟨q_code_X3_init, q_init_X3, ⟨by decide, by decide, by decide +kernel⟩, by decide⟩, q_im_X3_init, rfl⟩
theorem cf_X3_size : CFv yX3_size cX3_size 1 (some .int) 0 := ⟨⟨q_code_X3_size, q_init_X3, ⟨by decide, by decide, by decide +kernel⟩, by decide⟩, q_im_X3_size, q_sel_X3_size⟩
theorem cf_X3_join : CFv yX3_join cX3_join 4 (some .int) 3 := ⟨⟨q_code_X3_join, q_init_X3, ⟨by decide, by decide, by decide +kernel⟩, by decide⟩, q_im_X3_join, q_sel_X3_join⟩
theorem cf_X3_receive : CFv yX3_receive cX3_receive 3 none 2 := ⟨⟨q_code_X3_receive, q_init_X3, ⟨by decide, by decide, by decide +kernel⟩, by decide⟩, q_im_X3_receive, q_sel_X3_receive⟩
theorem cf_X3_spend : CFv yX3_spend cX3_spend 3 none 2 := ⟨⟨q_code_X3_spend, q_init_X3, ⟨by decide, by decide, by decide +kernel⟩, by decide⟩, q_im_X3_spend, q_sel_X3_spend⟩
theorem cf_X3_poorest : CFv yX3_poorest cX3_poorest 3 (some .int) 0 := ⟨⟨q_code_X3_poorest, q_init_X3, ⟨by decide, by decide, by decide +kernel⟩, by decide⟩, q_im_X3_poorest, q_sel_X3_poorest⟩
theorem cf_X3_copy : CFv yX3_copy cX3_copy 2 none 1 := ⟨⟨q_code_X3_copy, q_init_X3, ⟨by decide, by decide, by decide +kernel⟩, by decide⟩, q_im_X3_copy, q_sel_X3_copy⟩
theorem cf_X4_init : CFi yX4_init cX4_init 1 0 := ⟨⟨q_code_X4_init, q_init_X4, ⟨by decide, by decide, by decide +kernel⟩, by decide⟩, q_im_X4_init, rfl⟩
theorem cf_X4_read : CFv yX4_read cX4_read 4 (some .int) 2 := ⟨⟨q_code_X4_read, q_init_X4, ⟨by decide, by decide, by decide +kernel⟩, by decide⟩, q_im_X4_read, q_sel_X4_read⟩
theorem cf_X4_takes : CFv yX4_takes cX4_takes 3 (some .boolean) 2 := ⟨⟨q_code_X4_takes, q_init_X4, ⟨by decide, by decide, by decide +kernel⟩, by decide⟩, q_im_X4_takes, q_sel_X4_takes⟩
theorem cf_X4_takesDigit : CFv yX4_takesDigit cX4_takesDigit 2 (some .boolean) 1 := ⟨⟨q_code_X4_takesDigit, q_init_X4, ⟨by decide, by decide, by decide +kernel⟩, by decide⟩, q_im_X4_takesDigit, q_sel_X4_takesDigit⟩
theorem cf_X4_takesFirst : CFv yX4_takesFirst cX4_takesFirst 4 (some .boolean) 2 := ⟨⟨q_code_X4_takesFirst, q_init_X4, ⟨by decide, by decide, by decide +kernel⟩, by decide⟩, q_im_X4_takesFirst, q_sel_X4_takesFirst⟩
theorem cf_X4_takesNext : CFv yX4_takesNext cX4_takesNext 3 (some .boolean) 1 := ⟨⟨q_code_X4_takesNext, q_init_X4, ⟨by decide, by decide, by decide +kernel⟩, by decide⟩, q_im_X4_takesNext, q_sel_X4_takesNext⟩
theorem cf_X4_closesBracket : CFv yX4_closesBracket cX4_closesBracket 1 (some .boolean) 0 := ⟨⟨q_code_X4_closesBracket, q_init_X4, ⟨by decide, by decide, by decide +kernel⟩, by decide⟩, q_im_X4_closesBracket, q_sel_X4_closesBracket⟩
theorem cf_X4_close : CFv yX4_close cX4_close 4 none 1 := ⟨⟨q_code_X4_close, q_init_X4, ⟨by decide, by decide, by decide +kernel⟩, by decide⟩, q_im_X4_close, q_sel_X4_close⟩
theorem cf_X4_rankOf : CFs yX4_rankOf cX4_rankOf 1 (some .int) 1 := ⟨⟨q_code_X4_rankOf, q_init_X4, ⟨by decide, by decide, by decide +kernel⟩, by decide⟩, q_st_X4_rankOf⟩
theorem cf_X5_init : CFi yX5_init cX5_init 2 1 := ⟨⟨q_code_X5_init, q_init_X5, ⟨by decide, by decide, by decide +kernel⟩, by decide⟩, q_im_X5_init, rfl⟩
theorem cf_X5_size : CFv yX5_size cX5_size 1 (some .int) 0 := ⟨⟨q_code_X5_size, q_init_X5, ⟨by decide, by decide, by decide +kernel⟩, by decide⟩, q_im_X5_size, q_sel_X5_size⟩
theorem cf_X5_at : CFv yX5_at cX5_at 2 (some .int) 1 := ⟨⟨q_code_X5_at, q_init_X5, ⟨by decide, by decide, by decide +kernel⟩, by decide⟩, q_im_X5_at, q_sel_X5_at⟩
theorem cf_X5_set : CFv yX5_set cX5_set 3 none 2 := ⟨⟨q_code_X5_set, q_init_X5, ⟨by decide, by decide, by decide +kernel⟩, by decide⟩, q_im_X5_set, q_sel_X5_set⟩
theorem cf_X5_swap : CFv yX5_swap cX5_swap 4 (some .int) 2 := ⟨⟨q_code_X5_swap, q_init_X5, ⟨by decide, by decide, by decide +kernel⟩, by decide⟩, q_im_X5_swap, q_sel_X5_swap⟩
theorem cf_X5_add : CFv yX5_add cX5_add 2 none 1 := ⟨⟨q_code_X5_add, q_init_X5, ⟨by decide, by decide, by decide +kernel⟩, by decide⟩, q_im_X5_add, q_sel_X5_add⟩
theorem cf_X5_last : CFv yX5_last cX5_last 1 (some .int) 0 := ⟨⟨q_code_X5_last, q_init_X5, ⟨by decide, by decide, by decide +kernel⟩, by decide⟩, q_im_X5_last, q_sel_X5_last⟩
theorem cf_X5_pop : CFv yX5_pop cX5_pop 2 (some .int) 0 := ⟨⟨q_code_X5_pop, q_init_X5, ⟨by decide, by decide, by decide +kernel⟩, by decide⟩, q_im_X5_pop, q_sel_X5_pop⟩
theorem cf_X5_sum : CFv yX5_sum cX5_sum 3 (some .int) 0 := ⟨⟨q_code_X5_sum, q_init_X5, ⟨by decide, by decide, by decide +kernel⟩, by decide⟩, q_im_X5_sum, q_sel_X5_sum⟩
theorem cf_X5_reset : CFv yX5_reset cX5_reset 3 none 1 := ⟨⟨q_code_X5_reset, q_init_X5, ⟨by decide, by decide, by decide +kernel⟩, by decide⟩, q_im_X5_reset, q_sel_X5_reset⟩
theorem cf_X5_copy : CFv yX5_copy cX5_copy 2 none 1 := ⟨⟨q_code_X5_copy, q_init_X5, ⟨by decide, by decide, by decide +kernel⟩, by decide⟩, q_im_X5_copy, q_sel_X5_copy⟩
theorem cf_X5_take : CFv yX5_take cX5_take 6 none 4 := ⟨⟨q_code_X5_take, q_init_X5, ⟨by decide, by decide, by decide +kernel⟩, by decide⟩, q_im_X5_take, q_sel_X5_take⟩
theorem cf_X6_init : CFi yX6_init cX6_init 1 0 := ⟨⟨q_code_X6_init, q_init_X6, ⟨by decide, by decide, by decide +kernel⟩, by decide⟩, q_im_X6_init, rfl⟩
theorem cf_X6_isWidth : CFs yX6_isWidth cX6_isWidth 1 (some .boolean) 1 := ⟨⟨q_code_X6_isWidth, q_init_X6, ⟨by decide, by decide, by decide +kernel⟩, by decide⟩, q_st_X6_isWidth⟩
theorem cf_X6_isMissing : CFv yX6_isMissing cX6_isMissing 1 (some .boolean) 0 := ⟨⟨q_code_X6_isMissing, q_init_X6, ⟨by decide, by decide, by decide +kernel⟩, by decide⟩, q_im_X6_isMissing, q_sel_X6_isMissing⟩
theorem cf_X6_make : CFv yX6_make cX6_make 3 none 2 := ⟨⟨q_code_X6_make, q_init_X6, ⟨by decide, by decide, by decide +kernel⟩, by decide⟩, q_im_X6_make, q_sel_X6_make⟩
theorem cf_X6_holds : CFv yX6_holds cX6_holds 3 (some .boolean) 2 := ⟨⟨q_code_X6_holds, q_init_X6, ⟨by decide, by decide, by decide +kernel⟩, by decide⟩, q_im_X6_holds, q_sel_X6_holds⟩
theorem cf_X6_write : CFv yX6_write cX6_write 3 none 2 := ⟨⟨q_code_X6_write, q_init_X6, ⟨by decide, by decide, by decide +kernel⟩, by decide⟩, q_im_X6_write, q_sel_X6_write⟩
theorem cf_X7_init : CFi yX7_init cX7_init 1 0 := ⟨⟨q_code_X7_init, q_init_X7, ⟨by decide, by decide, by decide +kernel⟩, by decide⟩, q_im_X7_init, rfl⟩
theorem cf_X7_stands : CFv yX7_stands cX7_stands 1 (some .boolean) 0 := ⟨⟨q_code_X7_stands, q_init_X7, ⟨by decide, by decide, by decide +kernel⟩, by decide⟩, q_im_X7_stands, q_sel_X7_stands⟩
theorem cf_X7_forget : CFv yX7_forget cX7_forget 1 none 0 := ⟨⟨q_code_X7_forget, q_init_X7, ⟨by decide, by decide, by decide +kernel⟩, by decide⟩, q_im_X7_forget, q_sel_X7_forget⟩
theorem cf_X7_hold : CFv yX7_hold cX7_hold 2 none 1 := ⟨⟨q_code_X7_hold, q_init_X7, ⟨by decide, by decide, by decide +kernel⟩, by decide⟩, q_im_X7_hold, q_sel_X7_hold⟩
theorem cf_X7_setName : CFv yX7_setName cX7_setName 3 none 2 := ⟨⟨q_code_X7_setName, q_init_X7, ⟨by decide, by decide, by decide +kernel⟩, by decide⟩, q_im_X7_setName, q_sel_X7_setName⟩
theorem cf_X7_work : CFv yX7_work cX7_work 3 (some .int) 0 := ⟨⟨q_code_X7_work, q_init_X7, ⟨by decide, by decide, by decide +kernel⟩, by decide⟩, q_im_X7_work, q_sel_X7_work⟩
theorem cf_X7_workSign : CFv yX7_workSign cX7_workSign 3 none 1 := ⟨⟨q_code_X7_workSign, q_init_X7, ⟨by decide, by decide, by decide +kernel⟩, by decide⟩, q_im_X7_workSign, q_sel_X7_workSign⟩
theorem cf_X7_joined : CFs yX7_joined cX7_joined 3 (some .int) 3 := ⟨⟨q_code_X7_joined, q_init_X7, ⟨by decide, by decide, by decide +kernel⟩, by decide⟩, q_st_X7_joined⟩
theorem cf_X8_init : CFi yX8_init cX8_init 1 0 := ⟨⟨q_code_X8_init, q_init_X8, ⟨by decide, by decide, by decide +kernel⟩, by decide⟩, q_im_X8_init, rfl⟩
theorem cf_X8_size : CFv yX8_size cX8_size 1 (some .int) 0 := ⟨⟨q_code_X8_size, q_init_X8, ⟨by decide, by decide, by decide +kernel⟩, by decide⟩, q_im_X8_size, q_sel_X8_size⟩
theorem cf_X8_come : CFv yX8_come cX8_come 3 (some .int) 2 := ⟨⟨q_code_X8_come, q_init_X8, ⟨by decide, by decide, by decide +kernel⟩, by decide⟩, q_im_X8_come, q_sel_X8_come⟩
theorem cf_X8_setWorth : CFv yX8_setWorth cX8_setWorth 4 (some .int) 3 := ⟨⟨q_code_X8_setWorth, q_init_X8, ⟨by decide, by decide, by decide +kernel⟩, by decide⟩, q_im_X8_setWorth, q_sel_X8_setWorth⟩
theorem cf_X8_valueOf : CFv yX8_valueOf cX8_valueOf 3 (some .int) 2 := ⟨⟨q_code_X8_valueOf, q_init_X8, ⟨by decide, by decide, by decide +kernel⟩, by decide⟩, q_im_X8_valueOf, q_sel_X8_valueOf⟩
theorem cf_X8_ownedBy : CFv yX8_ownedBy cX8_ownedBy 4 (some .int) 1 := ⟨⟨q_code_X8_ownedBy, q_init_X8, ⟨by decide, by decide, by decide +kernel⟩, by decide⟩, q_im_X8_ownedBy, q_sel_X8_ownedBy⟩
theorem cf_X8_keptBy : CFv yX8_keptBy cX8_keptBy 4 (some .int) 1 := ⟨⟨q_code_X8_keptBy, q_init_X8, ⟨by decide, by decide, by decide +kernel⟩, by decide⟩, q_im_X8_keptBy, q_sel_X8_keptBy⟩
theorem cf_X8_valueOwnedBy : CFv yX8_valueOwnedBy cX8_valueOwnedBy 4 (some .int) 1 := ⟨⟨q_code_X8_valueOwnedBy, q_init_X8, ⟨by decide, by decide, by decide +kernel⟩, by decide⟩, q_im_X8_valueOwnedBy, q_sel_X8_valueOwnedBy⟩
theorem cf_X8_copy : CFv yX8_copy cX8_copy 2 none 1 := ⟨⟨q_code_X8_copy, q_init_X8, ⟨by decide, by decide, by decide +kernel⟩, by decide⟩, q_im_X8_copy, q_sel_X8_copy⟩
theorem cf_X9_init : CFi yX9_init cX9_init 2 1 := ⟨⟨q_code_X9_init, q_init_X9, ⟨by decide, by decide, by decide +kernel⟩, by decide⟩, q_im_X9_init, rfl⟩
theorem cf_X9_copy : CFv yX9_copy cX9_copy 2 none 1 := ⟨⟨q_code_X9_copy, q_init_X9, ⟨by decide, by decide, by decide +kernel⟩, by decide⟩, q_im_X9_copy, q_sel_X9_copy⟩
theorem cf_X9_addPair : CFv yX9_addPair cX9_addPair 4 (some .int) 3 := ⟨⟨q_code_X9_addPair, q_init_X9, ⟨by decide, by decide, by decide +kernel⟩, by decide⟩, q_im_X9_addPair, q_sel_X9_addPair⟩
theorem cf_X9_bonusOwner : CFv yX9_bonusOwner cX9_bonusOwner 6 (some .int) 1 := ⟨⟨q_code_X9_bonusOwner, q_init_X9, ⟨by decide, by decide, by decide +kernel⟩, by decide⟩, q_im_X9_bonusOwner, q_sel_X9_bonusOwner⟩
theorem cf_X9_lackedBy : CFv yX9_lackedBy cX9_lackedBy 6 (some .int) 1 := ⟨⟨q_code_X9_lackedBy, q_init_X9, ⟨by decide, by decide, by decide +kernel⟩, by decide⟩, q_im_X9_lackedBy, q_sel_X9_lackedBy⟩
theorem cf_X9_fondestOf : CFv yX9_fondestOf cX9_fondestOf 4 (some .int) 1 := ⟨⟨q_code_X9_fondestOf, q_init_X9, ⟨by decide, by decide, by decide +kernel⟩, by decide⟩, q_im_X9_fondestOf, q_sel_X9_fondestOf⟩
theorem cf_X9_mostElse : CFv yX9_mostElse cX9_mostElse 5 (some .int) 1 := ⟨⟨q_code_X9_mostElse, q_init_X9, ⟨by decide, by decide, by decide +kernel⟩, by decide⟩, q_im_X9_mostElse, q_sel_X9_mostElse⟩
theorem cf_X9_nameFor : CFv yX9_nameFor cX9_nameFor 4 (some .int) 1 := ⟨⟨q_code_X9_nameFor, q_init_X9, ⟨by decide, by decide, by decide +kernel⟩, by decide⟩, q_im_X9_nameFor, q_sel_X9_nameFor⟩
theorem cf_X9_nameByText : CFv yX9_nameByText cX9_nameByText 3 (some .int) 2 := ⟨⟨q_code_X9_nameByText, q_init_X9, ⟨by decide, by decide, by decide +kernel⟩, by decide⟩, q_im_X9_nameByText, q_sel_X9_nameByText⟩
theorem cf_X9_wouldMend : CFv yX9_wouldMend cX9_wouldMend 4 (some .boolean) 1 := ⟨⟨q_code_X9_wouldMend, q_init_X9, ⟨by decide, by decide, by decide +kernel⟩, by decide⟩, q_im_X9_wouldMend, q_sel_X9_wouldMend⟩
theorem cf_X9_mendByText : CFv yX9_mendByText cX9_mendByText 3 (some .boolean) 2 := ⟨⟨q_code_X9_mendByText, q_init_X9, ⟨by decide, by decide, by decide +kernel⟩, by decide⟩, q_im_X9_mendByText, q_sel_X9_mendByText⟩
theorem cf_X9_figure : CFv yX9_figure cX9_figure 2 (some .int) 1 := ⟨⟨q_code_X9_figure, q_init_X9, ⟨by decide, by decide, by decide +kernel⟩, by decide⟩, q_im_X9_figure, q_sel_X9_figure⟩
theorem cf_X9_held : CFv yX9_held cX9_held 3 (some .int) 0 := ⟨⟨q_code_X9_held, q_init_X9, ⟨by decide, by decide, by decide +kernel⟩, by decide⟩, q_im_X9_held, q_sel_X9_held⟩
theorem cf_X9_most : CFv yX9_most cX9_most 3 (some .int) 0 := ⟨⟨q_code_X9_most, q_init_X9, ⟨by decide, by decide, by decide +kernel⟩, by decide⟩, q_im_X9_most, q_sel_X9_most⟩
theorem cf_X9_goRound : CFv yX9_goRound cX9_goRound 11 (some .int) 2 := ⟨⟨q_code_X9_goRound, q_init_X9, ⟨by decide, by decide, by decide +kernel⟩, by decide⟩, q_im_X9_goRound, q_sel_X9_goRound⟩
theorem cf_X9_firstWrongOf : CFv yX9_firstWrongOf cX9_firstWrongOf 4 (some .int) 1 := ⟨⟨q_code_X9_firstWrongOf, q_init_X9, ⟨by decide, by decide, by decide +kernel⟩, by decide⟩, q_im_X9_firstWrongOf, q_sel_X9_firstWrongOf⟩
theorem cf_X9_nextComes : CFv yX9_nextComes cX9_nextComes 3 (some .boolean) 1 := ⟨⟨q_code_X9_nextComes, q_init_X9, ⟨by decide, by decide, by decide +kernel⟩, by decide⟩, q_im_X9_nextComes, q_sel_X9_nextComes⟩
theorem cf_X10_init : CFi yX10_init cX10_init 1 0 := ⟨⟨q_code_X10_init, q_init_X10, ⟨by decide, by decide, by decide +kernel⟩, by decide⟩, q_im_X10_init, rfl⟩
theorem cf_X10_speak : CFv yX10_speak cX10_speak 5 (some .int) 4 := ⟨⟨q_code_X10_speak, q_init_X10, ⟨by decide, by decide, by decide +kernel⟩, by decide⟩, q_im_X10_speak, q_sel_X10_speak⟩
theorem cf_X10_say : CFv yX10_say cX10_say 7 (some .int) 4 := ⟨⟨q_code_X10_say, q_init_X10, ⟨by decide, by decide, by decide +kernel⟩, by decide⟩, q_im_X10_say, q_sel_X10_say⟩
theorem cf_X10_work : CFv yX10_work cX10_work 5 (some .int) 4 := ⟨⟨q_code_X10_work, q_init_X10, ⟨by decide, by decide, by decide +kernel⟩, by decide⟩, q_im_X10_work, q_sel_X10_work⟩
theorem cf_X10_minded : CFv yX10_minded cX10_minded 3 (some .int) 1 := ⟨⟨q_code_X10_minded, q_init_X10, ⟨by decide, by decide, by decide +kernel⟩, by decide⟩, q_im_X10_minded, q_sel_X10_minded⟩
theorem cf_X10_bodyOf : CFs yX10_bodyOf cX10_bodyOf 3 (some .int) 2 := ⟨⟨q_code_X10_bodyOf, q_init_X10, ⟨by decide, by decide, by decide +kernel⟩, by decide⟩, q_st_X10_bodyOf⟩
theorem cf_X11_init : CFi yX11_init cX11_init 2 0 := ⟨⟨q_code_X11_init, q_init_X11, ⟨by decide, by decide, by decide +kernel⟩, by decide⟩, q_im_X11_init, rfl⟩
theorem cf_X11_person : CFv yX11_person cX11_person 4 (some .int) 3 := ⟨⟨q_code_X11_person, q_init_X11, ⟨by decide, by decide, by decide +kernel⟩, by decide⟩, q_im_X11_person, q_sel_X11_person⟩
theorem cf_X11_personIs : CFv yX11_personIs cX11_personIs 3 (some .int) 2 := ⟨⟨q_code_X11_personIs, q_init_X11, ⟨by decide, by decide, by decide +kernel⟩, by decide⟩, q_im_X11_personIs, q_sel_X11_personIs⟩
theorem cf_X11_as : CFv yX11_as cX11_as 3 (some .int) 2 := ⟨⟨q_code_X11_as, q_init_X11, ⟨by decide, by decide, by decide +kernel⟩, by decide⟩, q_im_X11_as, q_sel_X11_as⟩
theorem cf_X11_become : CFv yX11_become cX11_become 3 (some .int) 2 := ⟨⟨q_code_X11_become, q_init_X11, ⟨by decide, by decide, by decide +kernel⟩, by decide⟩, q_im_X11_become, q_sel_X11_become⟩
theorem cf_X11_purse : CFv yX11_purse cX11_purse 3 (some .int) 2 := ⟨⟨q_code_X11_purse, q_init_X11, ⟨by decide, by decide, by decide +kernel⟩, by decide⟩, q_im_X11_purse, q_sel_X11_purse⟩
theorem cf_X11_thing : CFv yX11_thing cX11_thing 3 (some .int) 2 := ⟨⟨q_code_X11_thing, q_init_X11, ⟨by decide, by decide, by decide +kernel⟩, by decide⟩, q_im_X11_thing, q_sel_X11_thing⟩
theorem cf_X11_thingIs : CFv yX11_thingIs cX11_thingIs 3 (some .int) 2 := ⟨⟨q_code_X11_thingIs, q_init_X11, ⟨by decide, by decide, by decide +kernel⟩, by decide⟩, q_im_X11_thingIs, q_sel_X11_thingIs⟩
theorem cf_X11_worth : CFv yX11_worth cX11_worth 4 (some .int) 3 := ⟨⟨q_code_X11_worth, q_init_X11, ⟨by decide, by decide, by decide +kernel⟩, by decide⟩, q_im_X11_worth, q_sel_X11_worth⟩
theorem cf_X11_price : CFv yX11_price cX11_price 3 (some .int) 2 := ⟨⟨q_code_X11_price, q_init_X11, ⟨by decide, by decide, by decide +kernel⟩, by decide⟩, q_im_X11_price, q_sel_X11_price⟩
theorem cf_X11_keep : CFv yX11_keep cX11_keep 4 (some .int) 2 := ⟨⟨q_code_X11_keep, q_init_X11, ⟨by decide, by decide, by decide +kernel⟩, by decide⟩, q_im_X11_keep, q_sel_X11_keep⟩
theorem cf_X11_pair : CFv yX11_pair cX11_pair 4 (some .int) 3 := ⟨⟨q_code_X11_pair, q_init_X11, ⟨by decide, by decide, by decide +kernel⟩, by decide⟩, q_im_X11_pair, q_sel_X11_pair⟩
theorem cf_X11_pairIs : CFv yX11_pairIs cX11_pairIs 3 (some .int) 2 := ⟨⟨q_code_X11_pairIs, q_init_X11, ⟨by decide, by decide, by decide +kernel⟩, by decide⟩, q_im_X11_pairIs, q_sel_X11_pairIs⟩
theorem cf_X11_rule : CFv yX11_rule cX11_rule 3 (some .int) 2 := ⟨⟨q_code_X11_rule, q_init_X11, ⟨by decide, by decide, by decide +kernel⟩, by decide⟩, q_im_X11_rule, q_sel_X11_rule⟩
theorem cf_X11_feed : CFv yX11_feed cX11_feed 5 (some .int) 2 := ⟨⟨q_code_X11_feed, q_init_X11, ⟨by decide, by decide, by decide +kernel⟩, by decide⟩, q_im_X11_feed, q_sel_X11_feed⟩
theorem cf_X11_text : CFv yX11_text cX11_text 3 (some .int) 1 := ⟨⟨q_code_X11_text, q_init_X11, ⟨by decide, by decide, by decide +kernel⟩, by decide⟩, q_im_X11_text, q_sel_X11_text⟩
theorem cf_X11_untell : CFv yX11_untell cX11_untell 3 (some .int) 1 := ⟨⟨q_code_X11_untell, q_init_X11, ⟨by decide, by decide, by decide +kernel⟩, by decide⟩, q_im_X11_untell, q_sel_X11_untell⟩
theorem cf_X11_named : CFv yX11_named cX11_named 2 (some .int) 1 := ⟨⟨q_code_X11_named, q_init_X11, ⟨by decide, by decide, by decide +kernel⟩, by decide⟩, q_im_X11_named, q_sel_X11_named⟩
theorem cf_X11_mended : CFv yX11_mended cX11_mended 2 (some .int) 1 := ⟨⟨q_code_X11_mended, q_init_X11, ⟨by decide, by decide, by decide +kernel⟩, by decide⟩, q_im_X11_mended, q_sel_X11_mended⟩
theorem cf_X11_years : CFv yX11_years cX11_years 2 (some .int) 1 := ⟨⟨q_code_X11_years, q_init_X11, ⟨by decide, by decide, by decide +kernel⟩, by decide⟩, q_im_X11_years, q_sel_X11_years⟩
theorem cf_X11_seed : CFv yX11_seed cX11_seed 3 (some .int) 1 := ⟨⟨q_code_X11_seed, q_init_X11, ⟨by decide, by decide, by decide +kernel⟩, by decide⟩, q_im_X11_seed, q_sel_X11_seed⟩
theorem cf_X11_taken : CFv yX11_taken cX11_taken 6 (some .long) 3 := ⟨⟨q_code_X11_taken, q_init_X11, ⟨by decide, by decide, by decide +kernel⟩, by decide⟩, q_im_X11_taken, q_sel_X11_taken⟩
theorem cf_X11_gain : CFv yX11_gain cX11_gain 6 (some .long) 3 := ⟨⟨q_code_X11_gain, q_init_X11, ⟨by decide, by decide, by decide +kernel⟩, by decide⟩, q_im_X11_gain, q_sel_X11_gain⟩
theorem cf_X11_best : CFv yX11_best cX11_best 2 (some .int) 1 := ⟨⟨q_code_X11_best, q_init_X11, ⟨by decide, by decide, by decide +kernel⟩, by decide⟩, q_im_X11_best, q_sel_X11_best⟩
theorem cf_X11_right : CFv yX11_right cX11_right 3 (some .int) 1 := ⟨⟨q_code_X11_right, q_init_X11, ⟨by decide, by decide, by decide +kernel⟩, by decide⟩, q_im_X11_right, q_sel_X11_right⟩
theorem cf_X11_town : CFv yX11_town cX11_town 2 (some .int) 1 := ⟨⟨q_code_X11_town, q_init_X11, ⟨by decide, by decide, by decide +kernel⟩, by decide⟩, q_im_X11_town, q_sel_X11_town⟩
theorem cf_X11_firm : CFv yX11_firm cX11_firm 3 (some .int) 2 := ⟨⟨q_code_X11_firm, q_init_X11, ⟨by decide, by decide, by decide +kernel⟩, by decide⟩, q_im_X11_firm, q_sel_X11_firm⟩
theorem cf_X11_then : CFv yX11_then cX11_then 3 (some .int) 2 := ⟨⟨q_code_X11_then, q_init_X11, ⟨by decide, by decide, by decide +kernel⟩, by decide⟩, q_im_X11_then, q_sel_X11_then⟩
theorem cf_X11_whose : CFv yX11_whose cX11_whose 3 (some .int) 2 := ⟨⟨q_code_X11_whose, q_init_X11, ⟨by decide, by decide, by decide +kernel⟩, by decide⟩, q_im_X11_whose, q_sel_X11_whose⟩
theorem cf_X11_part : CFv yX11_part cX11_part 6 (some .int) 1 := ⟨⟨q_code_X11_part, q_init_X11, ⟨by decide, by decide, by decide +kernel⟩, by decide⟩, q_im_X11_part, q_sel_X11_part⟩
theorem cf_X11_voice : CFv yX11_voice cX11_voice 5 (some .int) 3 := ⟨⟨q_code_X11_voice, q_init_X11, ⟨by decide, by decide, by decide +kernel⟩, by decide⟩, q_im_X11_voice, q_sel_X11_voice⟩
theorem cf_X11_body : CFv yX11_body cX11_body 2 (some .int) 1 := ⟨⟨q_code_X11_body, q_init_X11, ⟨by decide, by decide, by decide +kernel⟩, by decide⟩, q_im_X11_body, q_sel_X11_body⟩
theorem cf_X11_sheet : CFv yX11_sheet cX11_sheet 5 (some .int) 3 := ⟨⟨q_code_X11_sheet, q_init_X11, ⟨by decide, by decide, by decide +kernel⟩, by decide⟩, q_im_X11_sheet, q_sel_X11_sheet⟩
theorem cf_X11_put : CFv yX11_put cX11_put 5 (some .int) 3 := ⟨⟨q_code_X11_put, q_init_X11, ⟨by decide, by decide, by decide +kernel⟩, by decide⟩, q_im_X11_put, q_sel_X11_put⟩
theorem cf_X11_move : CFv yX11_move cX11_move 8 (some .int) 5 := ⟨⟨q_code_X11_move, q_init_X11, ⟨by decide, by decide, by decide +kernel⟩, by decide⟩, q_im_X11_move, q_sel_X11_move⟩
theorem cf_X11_worths : CFv yX11_worths cX11_worths 7 (some .int) 2 := ⟨⟨q_code_X11_worths, q_init_X11, ⟨by decide, by decide, by decide +kernel⟩, by decide⟩, q_im_X11_worths, q_sel_X11_worths⟩
theorem cf_X11_judge : CFv yX11_judge cX11_judge 5 (some .int) 1 := ⟨⟨q_code_X11_judge, q_init_X11, ⟨by decide, by decide, by decide +kernel⟩, by decide⟩, q_im_X11_judge, q_sel_X11_judge⟩
theorem cf_X11_image : CFv yX11_image cX11_image 1 (some .int) 0 := ⟨⟨q_code_X11_image, q_init_X11, ⟨by decide, by decide, by decide +kernel⟩, by decide⟩, q_im_X11_image, q_sel_X11_image⟩
theorem cf_X11_restore : CFv yX11_restore cX11_restore 1 (some .int) 0 := ⟨⟨q_code_X11_restore, q_init_X11, ⟨by decide, by decide, by decide +kernel⟩, by decide⟩, q_im_X11_restore, q_sel_X11_restore⟩
theorem cf_X11_tell : CFv yX11_tell cX11_tell 2 (some .int) 1 := ⟨⟨q_code_X11_tell, q_init_X11, ⟨by decide, by decide, by decide +kernel⟩, by decide⟩, q_im_X11_tell, q_sel_X11_tell⟩
theorem cf_X11_check : CFv yX11_check cX11_check 3 (some .int) 1 := ⟨⟨q_code_X11_check, q_init_X11, ⟨by decide, by decide, by decide +kernel⟩, by decide⟩, q_im_X11_check, q_sel_X11_check⟩
theorem cf_X11_count : CFv yX11_count cX11_count 2 (some .int) 1 := ⟨⟨q_code_X11_count, q_init_X11, ⟨by decide, by decide, by decide +kernel⟩, by decide⟩, q_im_X11_count, q_sel_X11_count⟩
theorem cf_X11_told : CFv yX11_told cX11_told 2 (some .int) 1 := ⟨⟨q_code_X11_told, q_init_X11, ⟨by decide, by decide, by decide +kernel⟩, by decide⟩, q_im_X11_told, q_sel_X11_told⟩
theorem cf_X11_fail : CFv yX11_fail cX11_fail 2 (some .int) 1 := ⟨⟨q_code_X11_fail, q_init_X11, ⟨by decide, by decide, by decide +kernel⟩, by decide⟩, q_im_X11_fail, q_sel_X11_fail⟩
theorem cf_X11_isPerson : CFv yX11_isPerson cX11_isPerson 2 (some .boolean) 1 := ⟨⟨q_code_X11_isPerson, q_init_X11, ⟨by decide, by decide, by decide +kernel⟩, by decide⟩, q_im_X11_isPerson, q_sel_X11_isPerson⟩
theorem cf_X11_isThing : CFv yX11_isThing cX11_isThing 2 (some .boolean) 1 := ⟨⟨q_code_X11_isThing, q_init_X11, ⟨by decide, by decide, by decide +kernel⟩, by decide⟩, q_im_X11_isThing, q_sel_X11_isThing⟩
theorem cf_X11_textOf : CFv yX11_textOf cX11_textOf 2 (some (.object "NamedPrices$Text")) 1 := ⟨⟨q_code_X11_textOf, q_init_X11, ⟨by decide, by decide, by decide +kernel⟩, by decide⟩, q_im_X11_textOf, q_sel_X11_textOf⟩
theorem cf_X11_sheetAt : CFv yX11_sheetAt cX11_sheetAt 2 (some (.object "NamedPrices$Sheet")) 1 := ⟨⟨q_code_X11_sheetAt, q_init_X11, ⟨by decide, by decide, by decide +kernel⟩, by decide⟩, q_im_X11_sheetAt, q_sel_X11_sheetAt⟩
theorem cf_X11_within : CFs yX11_within cX11_within 2 (some .boolean) 2 := ⟨⟨q_code_X11_within, q_init_X11, ⟨by decide, by decide, by decide +kernel⟩, by decide⟩, q_st_X11_within⟩
theorem cf_X11_isChance : CFs yX11_isChance cX11_isChance 2 (some .boolean) 1 := ⟨⟨q_code_X11_isChance, q_init_X11, ⟨by decide, by decide, by decide +kernel⟩, by decide⟩, q_st_X11_isChance⟩
theorem cf_X11_highestOfRule : CFs yX11_highestOfRule cX11_highestOfRule 1 (some .int) 1 := ⟨⟨q_code_X11_highestOfRule, q_init_X11, ⟨by decide, by decide, by decide +kernel⟩, by decide⟩, q_st_X11_highestOfRule⟩
theorem cf_X11_lowestTerm : CFs yX11_lowestTerm cX11_lowestTerm 12 (some .long) 3 := ⟨⟨q_code_X11_lowestTerm, q_init_X11, ⟨by decide, by decide, by decide +kernel⟩, by decide⟩, q_st_X11_lowestTerm⟩
theorem cf_X12_init : CFi yX12_init cX12_init 1 0 := ⟨⟨q_code_X12_init, q_init_X12, ⟨by decide, by decide, by decide +kernel⟩, by decide⟩, q_im_X12_init, rfl⟩
theorem cf_X12_error : CFv yX12_error cX12_error 2 (some .int) 1 := ⟨⟨q_code_X12_error, q_init_X12, ⟨by decide, by decide, by decide +kernel⟩, by decide⟩, q_im_X12_error, q_sel_X12_error⟩
theorem cf_X12_in : CFs yX12_in cX12_in 3 (some .boolean) 3 := ⟨⟨q_code_X12_in, q_init_X12, ⟨by decide, by decide, by decide +kernel⟩, by decide⟩, q_st_X12_in⟩
theorem cf_X12_held : CFs yX12_held cX12_held 3 (some .int) 3 := ⟨⟨q_code_X12_held, q_init_X12, ⟨by decide, by decide, by decide +kernel⟩, by decide⟩, q_st_X12_held⟩
theorem cf_X12_lay : CFs yX12_lay cX12_lay 3 none 2 := ⟨⟨q_code_X12_lay, q_init_X12, ⟨by decide, by decide, by decide +kernel⟩, by decide⟩, q_st_X12_lay⟩
theorem cf_X12_isPerson : CFv yX12_isPerson cX12_isPerson 2 (some .boolean) 1 := ⟨⟨q_code_X12_isPerson, q_init_X12, ⟨by decide, by decide, by decide +kernel⟩, by decide⟩, q_im_X12_isPerson, q_sel_X12_isPerson⟩
theorem cf_X12_isThing : CFv yX12_isThing cX12_isThing 2 (some .boolean) 1 := ⟨⟨q_code_X12_isThing, q_init_X12, ⟨by decide, by decide, by decide +kernel⟩, by decide⟩, q_im_X12_isThing, q_sel_X12_isThing⟩
theorem cf_X12_who : CFv yX12_who cX12_who 3 (some .int) 2 := ⟨⟨q_code_X12_who, q_init_X12, ⟨by decide, by decide, by decide +kernel⟩, by decide⟩, q_im_X12_who, q_sel_X12_who⟩
theorem cf_X12_its : CFv yX12_its cX12_its 3 (some .int) 2 := ⟨⟨q_code_X12_its, q_init_X12, ⟨by decide, by decide, by decide +kernel⟩, by decide⟩, q_im_X12_its, q_sel_X12_its⟩
theorem cf_X12_owner : CFv yX12_owner cX12_owner 2 (some .int) 1 := ⟨⟨q_code_X12_owner, q_init_X12, ⟨by decide, by decide, by decide +kernel⟩, by decide⟩, q_im_X12_owner, q_sel_X12_owner⟩
theorem cf_X12_valueTo : CFv yX12_valueTo cX12_valueTo 3 (some .int) 2 := ⟨⟨q_code_X12_valueTo, q_init_X12, ⟨by decide, by decide, by decide +kernel⟩, by decide⟩, q_im_X12_valueTo, q_sel_X12_valueTo⟩
theorem cf_X12_isPart : CFs yX12_isPart cX12_isPart 1 (some .boolean) 1 := ⟨⟨q_code_X12_isPart, q_init_X12, ⟨by decide, by decide, by decide +kernel⟩, by decide⟩, q_st_X12_isPart⟩
theorem cf_X12_person : CFv yX12_person cX12_person 5 (some .int) 3 := ⟨⟨q_code_X12_person, q_init_X12, ⟨by decide, by decide, by decide +kernel⟩, by decide⟩, q_im_X12_person, q_sel_X12_person⟩
theorem cf_X12_pairIts : CFv yX12_pairIts cX12_pairIts 3 (some .int) 2 := ⟨⟨q_code_X12_pairIts, q_init_X12, ⟨by decide, by decide, by decide +kernel⟩, by decide⟩, q_im_X12_pairIts, q_sel_X12_pairIts⟩
theorem cf_X12_hasOne : CFv yX12_hasOne cX12_hasOne 4 (some .boolean) 3 := ⟨⟨q_code_X12_hasOne, q_init_X12, ⟨by decide, by decide, by decide +kernel⟩, by decide⟩, q_im_X12_hasOne, q_sel_X12_hasOne⟩
theorem cf_X12_lacks : CFv yX12_lacks cX12_lacks 4 (some .int) 1 := ⟨⟨q_code_X12_lacks, q_init_X12, ⟨by decide, by decide, by decide +kernel⟩, by decide⟩, q_im_X12_lacks, q_sel_X12_lacks⟩
theorem cf_X12_owns : CFv yX12_owns cX12_owns 5 (some .int) 2 := ⟨⟨q_code_X12_owns, q_init_X12, ⟨by decide, by decide, by decide +kernel⟩, by decide⟩, q_im_X12_owns, q_sel_X12_owns⟩
theorem cf_X12_personIs : CFv yX12_personIs cX12_personIs 3 (some .int) 2 := ⟨⟨q_code_X12_personIs, q_init_X12, ⟨by decide, by decide, by decide +kernel⟩, by decide⟩, q_im_X12_personIs, q_sel_X12_personIs⟩
theorem cf_X12_isUnder : CFs yX12_isUnder cX12_isUnder 2 (some .boolean) 2 := ⟨⟨q_code_X12_isUnder, q_init_X12, ⟨by decide, by decide, by decide +kernel⟩, by decide⟩, q_st_X12_isUnder⟩
theorem cf_X12_as : CFv yX12_as cX12_as 3 (some .int) 2 := ⟨⟨q_code_X12_as, q_init_X12, ⟨by decide, by decide, by decide +kernel⟩, by decide⟩, q_im_X12_as, q_sel_X12_as⟩
theorem cf_X12_become : CFv yX12_become cX12_become 4 (some .int) 2 := ⟨⟨q_code_X12_become, q_init_X12, ⟨by decide, by decide, by decide +kernel⟩, by decide⟩, q_im_X12_become, q_sel_X12_become⟩
theorem cf_X12_purse : CFv yX12_purse cX12_purse 4 (some .int) 2 := ⟨⟨q_code_X12_purse, q_init_X12, ⟨by decide, by decide, by decide +kernel⟩, by decide⟩, q_im_X12_purse, q_sel_X12_purse⟩
theorem cf_X12_thing : CFv yX12_thing cX12_thing 4 (some .int) 2 := ⟨⟨q_code_X12_thing, q_init_X12, ⟨by decide, by decide, by decide +kernel⟩, by decide⟩, q_im_X12_thing, q_sel_X12_thing⟩
theorem cf_X12_fondest : CFv yX12_fondest cX12_fondest 4 (some .int) 1 := ⟨⟨q_code_X12_fondest, q_init_X12, ⟨by decide, by decide, by decide +kernel⟩, by decide⟩, q_im_X12_fondest, q_sel_X12_fondest⟩
theorem cf_X12_thingIs : CFv yX12_thingIs cX12_thingIs 3 (some .int) 2 := ⟨⟨q_code_X12_thingIs, q_init_X12, ⟨by decide, by decide, by decide +kernel⟩, by decide⟩, q_im_X12_thingIs, q_sel_X12_thingIs⟩
theorem cf_X12_worth : CFv yX12_worth cX12_worth 6 (some .int) 3 := ⟨⟨q_code_X12_worth, q_init_X12, ⟨by decide, by decide, by decide +kernel⟩, by decide⟩, q_im_X12_worth, q_sel_X12_worth⟩
theorem cf_X12_price : CFv yX12_price cX12_price 4 (some .int) 2 := ⟨⟨q_code_X12_price, q_init_X12, ⟨by decide, by decide, by decide +kernel⟩, by decide⟩, q_im_X12_price, q_sel_X12_price⟩
theorem cf_X12_keep : CFv yX12_keep cX12_keep 4 (some .int) 2 := ⟨⟨q_code_X12_keep, q_init_X12, ⟨by decide, by decide, by decide +kernel⟩, by decide⟩, q_im_X12_keep, q_sel_X12_keep⟩
theorem cf_X12_pair : CFv yX12_pair cX12_pair 5 (some .int) 3 := ⟨⟨q_code_X12_pair, q_init_X12, ⟨by decide, by decide, by decide +kernel⟩, by decide⟩, q_im_X12_pair, q_sel_X12_pair⟩
theorem cf_X12_hasBonus : CFv yX12_hasBonus cX12_hasBonus 5 (some .int) 1 := ⟨⟨q_code_X12_hasBonus, q_init_X12, ⟨by decide, by decide, by decide +kernel⟩, by decide⟩, q_im_X12_hasBonus, q_sel_X12_hasBonus⟩
theorem cf_X12_pairIs : CFv yX12_pairIs cX12_pairIs 3 (some .int) 2 := ⟨⟨q_code_X12_pairIs, q_init_X12, ⟨by decide, by decide, by decide +kernel⟩, by decide⟩, q_im_X12_pairIs, q_sel_X12_pairIs⟩
theorem cf_X12_mostOf : CFs yX12_mostOf cX12_mostOf 1 (some .int) 1 := ⟨⟨q_code_X12_mostOf, q_init_X12, ⟨by decide, by decide, by decide +kernel⟩, by decide⟩, q_st_X12_mostOf⟩
theorem cf_X12_rule : CFv yX12_rule cX12_rule 4 (some .int) 2 := ⟨⟨q_code_X12_rule, q_init_X12, ⟨by decide, by decide, by decide +kernel⟩, by decide⟩, q_im_X12_rule, q_sel_X12_rule⟩
theorem cf_X12_feed : CFv yX12_feed cX12_feed 5 (some .int) 2 := ⟨⟨q_code_X12_feed, q_init_X12, ⟨by decide, by decide, by decide +kernel⟩, by decide⟩, q_im_X12_feed, q_sel_X12_feed⟩
theorem cf_X12_look : CFv yX12_look cX12_look 1 (some .int) 0 := ⟨⟨q_code_X12_look, q_init_X12, ⟨by decide, by decide, by decide +kernel⟩, by decide⟩, q_im_X12_look, q_sel_X12_look⟩
theorem cf_X12_isName : CFv yX12_isName cX12_isName 2 (some .boolean) 1 := ⟨⟨q_code_X12_isName, q_init_X12, ⟨by decide, by decide, by decide +kernel⟩, by decide⟩, q_im_X12_isName, q_sel_X12_isName⟩
theorem cf_X12_lays : CFv yX12_lays cX12_lays 3 none 2 := ⟨⟨q_code_X12_lays, q_init_X12, ⟨by decide, by decide, by decide +kernel⟩, by decide⟩, q_im_X12_lays, q_sel_X12_lays⟩
theorem cf_X12_whole : CFv yX12_whole cX12_whole 1 (some .boolean) 0 := ⟨⟨q_code_X12_whole, q_init_X12, ⟨by decide, by decide, by decide +kernel⟩, by decide⟩, q_im_X12_whole, q_sel_X12_whole⟩
theorem cf_X12_both : CFv yX12_both cX12_both 1 (some .boolean) 0 := ⟨⟨q_code_X12_both, q_init_X12, ⟨by decide, by decide, by decide +kernel⟩, by decide⟩, q_im_X12_both, q_sel_X12_both⟩
theorem cf_X12_compared : CFv yX12_compared cX12_compared 2 (some .boolean) 0 := ⟨⟨q_code_X12_compared, q_init_X12, ⟨by decide, by decide, by decide +kernel⟩, by decide⟩, q_im_X12_compared, q_sel_X12_compared⟩
theorem cf_X12_sum : CFv yX12_sum cX12_sum 2 (some .boolean) 0 := ⟨⟨q_code_X12_sum, q_init_X12, ⟨by decide, by decide, by decide +kernel⟩, by decide⟩, q_im_X12_sum, q_sel_X12_sum⟩
theorem cf_X12_product : CFv yX12_product cX12_product 2 (some .boolean) 0 := ⟨⟨q_code_X12_product, q_init_X12, ⟨by decide, by decide, by decide +kernel⟩, by decide⟩, q_im_X12_product, q_sel_X12_product⟩
theorem cf_X12_opens : CFv yX12_opens cX12_opens 1 (some .boolean) 0 := ⟨⟨q_code_X12_opens, q_init_X12, ⟨by decide, by decide, by decide +kernel⟩, by decide⟩, q_im_X12_opens, q_sel_X12_opens⟩
theorem cf_X12_one : CFv yX12_one cX12_one 4 (some .boolean) 0 := ⟨⟨q_code_X12_one, q_init_X12, ⟨by decide, by decide, by decide +kernel⟩, by decide⟩, q_im_X12_one, q_sel_X12_one⟩
theorem cf_X12_hasText : CFv yX12_hasText cX12_hasText 2 (some .boolean) 1 := ⟨⟨q_code_X12_hasText, q_init_X12, ⟨by decide, by decide, by decide +kernel⟩, by decide⟩, q_im_X12_hasText, q_sel_X12_hasText⟩
theorem cf_X12_text : CFv yX12_text cX12_text 5 (some .int) 1 := ⟨⟨q_code_X12_text, q_init_X12, ⟨by decide, by decide, by decide +kernel⟩, by decide⟩, q_im_X12_text, q_sel_X12_text⟩
theorem cf_X12_untell : CFv yX12_untell cX12_untell 3 (some .int) 1 := ⟨⟨q_code_X12_untell, q_init_X12, ⟨by decide, by decide, by decide +kernel⟩, by decide⟩, q_im_X12_untell, q_sel_X12_untell⟩
theorem cf_X12_joined : CFs yX12_joined cX12_joined 3 (some .int) 3 := ⟨⟨q_code_X12_joined, q_init_X12, ⟨by decide, by decide, by decide +kernel⟩, by decide⟩, q_st_X12_joined⟩
theorem cf_X12_worked : CFv yX12_worked cX12_worked 7 (some .int) 1 := ⟨⟨q_code_X12_worked, q_init_X12, ⟨by decide, by decide, by decide +kernel⟩, by decide⟩, q_im_X12_worked, q_sel_X12_worked⟩
theorem cf_X12_greatestElse : CFv yX12_greatestElse cX12_greatestElse 5 (some .int) 1 := ⟨⟨q_code_X12_greatestElse, q_init_X12, ⟨by decide, by decide, by decide +kernel⟩, by decide⟩, q_im_X12_greatestElse, q_sel_X12_greatestElse⟩
theorem cf_X12_namedBy : CFv yX12_namedBy cX12_namedBy 4 (some .int) 1 := ⟨⟨q_code_X12_namedBy, q_init_X12, ⟨by decide, by decide, by decide +kernel⟩, by decide⟩, q_im_X12_namedBy, q_sel_X12_namedBy⟩
theorem cf_X12_names : CFv yX12_names cX12_names 2 (some .int) 1 := ⟨⟨q_code_X12_names, q_init_X12, ⟨by decide, by decide, by decide +kernel⟩, by decide⟩, q_im_X12_names, q_sel_X12_names⟩
theorem cf_X12_named : CFv yX12_named cX12_named 2 (some .int) 1 := ⟨⟨q_code_X12_named, q_init_X12, ⟨by decide, by decide, by decide +kernel⟩, by decide⟩, q_im_X12_named, q_sel_X12_named⟩
theorem cf_X12_isMended : CFv yX12_isMended cX12_isMended 5 (some .boolean) 1 := ⟨⟨q_code_X12_isMended, q_init_X12, ⟨by decide, by decide, by decide +kernel⟩, by decide⟩, q_im_X12_isMended, q_sel_X12_isMended⟩
theorem cf_X12_mended : CFv yX12_mended cX12_mended 2 (some .int) 1 := ⟨⟨q_code_X12_mended, q_init_X12, ⟨by decide, by decide, by decide +kernel⟩, by decide⟩, q_im_X12_mended, q_sel_X12_mended⟩
theorem cf_X12_draw : CFv yX12_draw cX12_draw 1 (some .int) 0 := ⟨⟨q_code_X12_draw, q_init_X12, ⟨by decide, by decide, by decide +kernel⟩, by decide⟩, q_im_X12_draw, q_sel_X12_draw⟩
theorem cf_X12_gets : CFv yX12_gets cX12_gets 4 none 2 := ⟨⟨q_code_X12_gets, q_init_X12, ⟨by decide, by decide, by decide +kernel⟩, by decide⟩, q_im_X12_gets, q_sel_X12_gets⟩
theorem cf_X12_pays : CFv yX12_pays cX12_pays 5 none 1 := ⟨⟨q_code_X12_pays, q_init_X12, ⟨by decide, by decide, by decide +kernel⟩, by decide⟩, q_im_X12_pays, q_sel_X12_pays⟩
theorem cf_X12_isAsked : CFv yX12_isAsked cX12_isAsked 6 none 1 := ⟨⟨q_code_X12_isAsked, q_init_X12, ⟨by decide, by decide, by decide +kernel⟩, by decide⟩, q_im_X12_isAsked, q_sel_X12_isAsked⟩
theorem cf_X12_mends : CFv yX12_mends cX12_mends 3 none 1 := ⟨⟨q_code_X12_mends, q_init_X12, ⟨by decide, by decide, by decide +kernel⟩, by decide⟩, q_im_X12_mends, q_sel_X12_mends⟩
theorem cf_X12_sharesOut : CFv yX12_sharesOut cX12_sharesOut 4 none 0 := ⟨⟨q_code_X12_sharesOut, q_init_X12, ⟨by decide, by decide, by decide +kernel⟩, by decide⟩, q_im_X12_sharesOut, q_sel_X12_sharesOut⟩
theorem cf_X12_year : CFv yX12_year cX12_year 2 none 0 := ⟨⟨q_code_X12_year, q_init_X12, ⟨by decide, by decide, by decide +kernel⟩, by decide⟩, q_im_X12_year, q_sel_X12_year⟩
theorem cf_X12_go : CFv yX12_go cX12_go 3 none 1 := ⟨⟨q_code_X12_go, q_init_X12, ⟨by decide, by decide, by decide +kernel⟩, by decide⟩, q_im_X12_go, q_sel_X12_go⟩
theorem cf_X12_years : CFv yX12_years cX12_years 2 (some .int) 1 := ⟨⟨q_code_X12_years, q_init_X12, ⟨by decide, by decide, by decide +kernel⟩, by decide⟩, q_im_X12_years, q_sel_X12_years⟩
theorem cf_X12_seed : CFv yX12_seed cX12_seed 3 (some .int) 1 := ⟨⟨q_code_X12_seed, q_init_X12, ⟨by decide, by decide, by decide +kernel⟩, by decide⟩, q_im_X12_seed, q_sel_X12_seed⟩
theorem cf_X12_allBelow : CFv yX12_allBelow cX12_allBelow 5 (some .long) 1 := ⟨⟨q_code_X12_allBelow, q_init_X12, ⟨by decide, by decide, by decide +kernel⟩, by decide⟩, q_im_X12_allBelow, q_sel_X12_allBelow⟩
theorem cf_X12_nobody : CFv yX12_nobody cX12_nobody 7 (some .long) 2 := ⟨⟨q_code_X12_nobody, q_init_X12, ⟨by decide, by decide, by decide +kernel⟩, by decide⟩, q_im_X12_nobody, q_sel_X12_nobody⟩
theorem cf_X12_gainOf : CFv yX12_gainOf cX12_gainOf 10 (some .long) 3 := ⟨⟨q_code_X12_gainOf, q_init_X12, ⟨by decide, by decide, by decide +kernel⟩, by decide⟩, q_im_X12_gainOf, q_sel_X12_gainOf⟩
theorem cf_X12_lowest : CFs yX12_lowest cX12_lowest 11 (some .long) 3 := ⟨⟨q_code_X12_lowest, q_init_X12, ⟨by decide, by decide, by decide +kernel⟩, by decide⟩, q_st_X12_lowest⟩
theorem cf_X12_isPriced : CFv yX12_isPriced cX12_isPriced 4 (some .boolean) 3 := ⟨⟨q_code_X12_isPriced, q_init_X12, ⟨by decide, by decide, by decide +kernel⟩, by decide⟩, q_im_X12_isPriced, q_sel_X12_isPriced⟩
theorem cf_X12_taken : CFv yX12_taken cX12_taken 6 (some .long) 3 := ⟨⟨q_code_X12_taken, q_init_X12, ⟨by decide, by decide, by decide +kernel⟩, by decide⟩, q_im_X12_taken, q_sel_X12_taken⟩
theorem cf_X12_gain : CFv yX12_gain cX12_gain 4 (some .long) 3 := ⟨⟨q_code_X12_gain, q_init_X12, ⟨by decide, by decide, by decide +kernel⟩, by decide⟩, q_im_X12_gain, q_sel_X12_gain⟩
theorem cf_X12_better : CFv yX12_better cX12_better 9 (some .int) 4 := ⟨⟨q_code_X12_better, q_init_X12, ⟨by decide, by decide, by decide +kernel⟩, by decide⟩, q_im_X12_better, q_sel_X12_better⟩
theorem cf_X12_bestWith : CFv yX12_bestWith cX12_bestWith 5 (some .int) 2 := ⟨⟨q_code_X12_bestWith, q_init_X12, ⟨by decide, by decide, by decide +kernel⟩, by decide⟩, q_im_X12_bestWith, q_sel_X12_bestWith⟩
theorem cf_X12_bestOf : CFv yX12_bestOf cX12_bestOf 2 (some .int) 1 := ⟨⟨q_code_X12_bestOf, q_init_X12, ⟨by decide, by decide, by decide +kernel⟩, by decide⟩, q_im_X12_bestOf, q_sel_X12_bestOf⟩
theorem cf_X12_best : CFv yX12_best cX12_best 2 (some .int) 1 := ⟨⟨q_code_X12_best, q_init_X12, ⟨by decide, by decide, by decide +kernel⟩, by decide⟩, q_im_X12_best, q_sel_X12_best⟩
theorem cf_X12_right : CFv yX12_right cX12_right 3 (some .int) 1 := ⟨⟨q_code_X12_right, q_init_X12, ⟨by decide, by decide, by decide +kernel⟩, by decide⟩, q_im_X12_right, q_sel_X12_right⟩
theorem cf_X12_sumOf : CFv yX12_sumOf cX12_sumOf 4 (some .int) 1 := ⟨⟨q_code_X12_sumOf, q_init_X12, ⟨by decide, by decide, by decide +kernel⟩, by decide⟩, q_im_X12_sumOf, q_sel_X12_sumOf⟩
theorem cf_X12_townOf : CFv yX12_townOf cX12_townOf 4 (some .int) 1 := ⟨⟨q_code_X12_townOf, q_init_X12, ⟨by decide, by decide, by decide +kernel⟩, by decide⟩, q_im_X12_townOf, q_sel_X12_townOf⟩
theorem cf_X12_town : CFv yX12_town cX12_town 2 (some .int) 1 := ⟨⟨q_code_X12_town, q_init_X12, ⟨by decide, by decide, by decide +kernel⟩, by decide⟩, q_im_X12_town, q_sel_X12_town⟩
theorem cf_X12_firm : CFv yX12_firm cX12_firm 10 (some .int) 2 := ⟨⟨q_code_X12_firm, q_init_X12, ⟨by decide, by decide, by decide +kernel⟩, by decide⟩, q_im_X12_firm, q_sel_X12_firm⟩
theorem cf_X12_then : CFv yX12_then cX12_then 4 (some .int) 2 := ⟨⟨q_code_X12_then, q_init_X12, ⟨by decide, by decide, by decide +kernel⟩, by decide⟩, q_im_X12_then, q_sel_X12_then⟩
theorem cf_X12_whose : CFv yX12_whose cX12_whose 4 (some .int) 2 := ⟨⟨q_code_X12_whose, q_init_X12, ⟨by decide, by decide, by decide +kernel⟩, by decide⟩, q_im_X12_whose, q_sel_X12_whose⟩
theorem cf_X12_part : CFv yX12_part cX12_part 6 (some .int) 1 := ⟨⟨q_code_X12_part, q_init_X12, ⟨by decide, by decide, by decide +kernel⟩, by decide⟩, q_im_X12_part, q_sel_X12_part⟩
theorem cf_X12_begins : CFv yX12_begins cX12_begins 2 none 1 := ⟨⟨q_code_X12_begins, q_init_X12, ⟨by decide, by decide, by decide +kernel⟩, by decide⟩, q_im_X12_begins, q_sel_X12_begins⟩
theorem cf_X12_above : CFs yX12_above cX12_above 1 (some .int) 1 := ⟨⟨q_code_X12_above, q_init_X12, ⟨by decide, by decide, by decide +kernel⟩, by decide⟩, q_st_X12_above⟩
theorem cf_X12_kindNow : CFv yX12_kindNow cX12_kindNow 1 (some .int) 0 := ⟨⟨q_code_X12_kindNow, q_init_X12, ⟨by decide, by decide, by decide +kernel⟩, by decide⟩, q_im_X12_kindNow, q_sel_X12_kindNow⟩
theorem cf_X12_partNow : CFv yX12_partNow cX12_partNow 1 (some .int) 0 := ⟨⟨q_code_X12_partNow, q_init_X12, ⟨by decide, by decide, by decide +kernel⟩, by decide⟩, q_im_X12_partNow, q_sel_X12_partNow⟩
theorem cf_X12_calls : CFv yX12_calls cX12_calls 3 (some .int) 2 := ⟨⟨q_code_X12_calls, q_init_X12, ⟨by decide, by decide, by decide +kernel⟩, by decide⟩, q_im_X12_calls, q_sel_X12_calls⟩
theorem cf_X12_buys : CFv yX12_buys cX12_buys 3 (some .int) 2 := ⟨⟨q_code_X12_buys, q_init_X12, ⟨by decide, by decide, by decide +kernel⟩, by decide⟩, q_im_X12_buys, q_sel_X12_buys⟩
theorem cf_X12_gives : CFv yX12_gives cX12_gives 3 (some .int) 2 := ⟨⟨q_code_X12_gives, q_init_X12, ⟨by decide, by decide, by decide +kernel⟩, by decide⟩, q_im_X12_gives, q_sel_X12_gives⟩
theorem cf_X12_minds : CFv yX12_minds cX12_minds 5 (some .int) 2 := ⟨⟨q_code_X12_minds, q_init_X12, ⟨by decide, by decide, by decide +kernel⟩, by decide⟩, q_im_X12_minds, q_sel_X12_minds⟩
theorem cf_X12_voice : CFv yX12_voice cX12_voice 6 (some .int) 3 := ⟨⟨q_code_X12_voice, q_init_X12, ⟨by decide, by decide, by decide +kernel⟩, by decide⟩, q_im_X12_voice, q_sel_X12_voice⟩
theorem cf_X12_body : CFv yX12_body cX12_body 2 (some .int) 1 := ⟨⟨q_code_X12_body, q_init_X12, ⟨by decide, by decide, by decide +kernel⟩, by decide⟩, q_im_X12_body, q_sel_X12_body⟩
theorem cf_X12_isSheet : CFs yX12_isSheet cX12_isSheet 1 (some .boolean) 1 := ⟨⟨q_code_X12_isSheet, q_init_X12, ⟨by decide, by decide, by decide +kernel⟩, by decide⟩, q_st_X12_isSheet⟩
theorem cf_X12_sheet : CFv yX12_sheet cX12_sheet 5 (some .int) 3 := ⟨⟨q_code_X12_sheet, q_init_X12, ⟨by decide, by decide, by decide +kernel⟩, by decide⟩, q_im_X12_sheet, q_sel_X12_sheet⟩
theorem cf_X12_put : CFv yX12_put cX12_put 5 (some .int) 3 := ⟨⟨q_code_X12_put, q_init_X12, ⟨by decide, by decide, by decide +kernel⟩, by decide⟩, q_im_X12_put, q_sel_X12_put⟩
theorem cf_X12_move : CFv yX12_move cX12_move 7 (some .int) 5 := ⟨⟨q_code_X12_move, q_init_X12, ⟨by decide, by decide, by decide +kernel⟩, by decide⟩, q_im_X12_move, q_sel_X12_move⟩
theorem cf_X12_missing : CFv yX12_missing cX12_missing 2 (some .int) 1 := ⟨⟨q_code_X12_missing, q_init_X12, ⟨by decide, by decide, by decide +kernel⟩, by decide⟩, q_im_X12_missing, q_sel_X12_missing⟩
theorem cf_X12_worths : CFv yX12_worths cX12_worths 4 (some .int) 2 := ⟨⟨q_code_X12_worths, q_init_X12, ⟨by decide, by decide, by decide +kernel⟩, by decide⟩, q_im_X12_worths, q_sel_X12_worths⟩
theorem cf_X12_judge : CFv yX12_judge cX12_judge 3 (some .int) 1 := ⟨⟨q_code_X12_judge, q_init_X12, ⟨by decide, by decide, by decide +kernel⟩, by decide⟩, q_im_X12_judge, q_sel_X12_judge⟩
theorem cf_X12_image : CFv yX12_image cX12_image 1 (some .int) 0 := ⟨⟨q_code_X12_image, q_init_X12, ⟨by decide, by decide, by decide +kernel⟩, by decide⟩, q_im_X12_image, q_sel_X12_image⟩
theorem cf_X12_restore : CFv yX12_restore cX12_restore 1 (some .int) 0 := ⟨⟨q_code_X12_restore, q_init_X12, ⟨by decide, by decide, by decide +kernel⟩, by decide⟩, q_im_X12_restore, q_sel_X12_restore⟩
theorem cf_X12_tell : CFv yX12_tell cX12_tell 2 (some .int) 1 := ⟨⟨q_code_X12_tell, q_init_X12, ⟨by decide, by decide, by decide +kernel⟩, by decide⟩, q_im_X12_tell, q_sel_X12_tell⟩
theorem cf_X12_check : CFv yX12_check cX12_check 6 (some .int) 1 := ⟨⟨q_code_X12_check, q_init_X12, ⟨by decide, by decide, by decide +kernel⟩, by decide⟩, q_im_X12_check, q_sel_X12_check⟩
theorem cf_X12_count : CFv yX12_count cX12_count 2 (some .int) 1 := ⟨⟨q_code_X12_count, q_init_X12, ⟨by decide, by decide, by decide +kernel⟩, by decide⟩, q_im_X12_count, q_sel_X12_count⟩
theorem cf_X12_told : CFv yX12_told cX12_told 2 (some .int) 1 := ⟨⟨q_code_X12_told, q_init_X12, ⟨by decide, by decide, by decide +kernel⟩, by decide⟩, q_im_X12_told, q_sel_X12_told⟩
theorem sk_0 : sh 0 = 11 := rfl
theorem sk_1 : sh 1 = 2 := rfl
theorem sk_2 : sh 2 = 5 := rfl
theorem sk_3 : sh 3 = 0 := rfl
theorem sk_4 : sh 4 = 5 := rfl
theorem sk_5 : sh 5 = 0 := rfl
theorem sk_6 : sh 6 = 5 := rfl
theorem sk_7 : sh 7 = 0 := rfl
theorem sk_8 : sh 8 = 9 := rfl
theorem sk_9 : sh 9 = 3 := rfl
theorem sk_10 : sh 10 = 5 := rfl
theorem sk_11 : sh 11 = 0 := rfl
theorem sk_12 : sh 12 = 5 := rfl
theorem sk_13 : sh 13 = 0 := rfl
theorem sk_14 : sh 14 = 5 := rfl
theorem sk_15 : sh 15 = 0 := rfl
theorem sk_16 : sh 16 = 5 := rfl
theorem sk_17 : sh 17 = 0 := rfl
theorem sk_18 : sh 18 = 8 := rfl
theorem sk_19 : sh 19 = 5 := rfl
theorem sk_20 : sh 20 = 0 := rfl
theorem sk_21 : sh 21 = 5 := rfl
theorem sk_22 : sh 22 = 0 := rfl
theorem sk_23 : sh 23 = 5 := rfl
theorem sk_24 : sh 24 = 0 := rfl
theorem sk_25 : sh 25 = 5 := rfl
theorem sk_26 : sh 26 = 0 := rfl
theorem sk_27 : sh 27 = 5 := rfl
theorem sk_28 : sh 28 = 0 := rfl
theorem sk_29 : sh 29 = 5 := rfl
theorem sk_30 : sh 30 = 0 := rfl
theorem sk_31 : sh 31 = 5 := rfl
theorem sk_32 : sh 32 = 0 := rfl
theorem sk_33 : sh 33 = 5 := rfl
theorem sk_34 : sh 34 = 0 := rfl
theorem sk_35 : sh 35 = 5 := rfl
theorem sk_36 : sh 36 = 0 := rfl
theorem sk_37 : sh 37 = 7 := rfl
theorem sk_38 : sh 38 = 5 := rfl
theorem sk_39 : sh 39 = 0 := rfl
theorem sk_40 : sh 40 = 5 := rfl
theorem sk_41 : sh 41 = 0 := rfl
theorem sk_42 : sh 42 = 5 := rfl
theorem sk_43 : sh 43 = 0 := rfl
theorem sk_44 : sh 44 = 7 := rfl
theorem sk_45 : sh 45 = 5 := rfl
theorem sk_46 : sh 46 = 0 := rfl
theorem sk_47 : sh 47 = 5 := rfl
theorem sk_48 : sh 48 = 0 := rfl
theorem sk_49 : sh 49 = 5 := rfl
theorem sk_50 : sh 50 = 0 := rfl
theorem sk_51 : sh 51 = 5 := rfl
theorem sk_52 : sh 52 = 0 := rfl
theorem sk_53 : sh 53 = 5 := rfl
theorem sk_54 : sh 54 = 0 := rfl
theorem sk_55 : sh 55 = 9 := rfl
theorem sk_56 : sh 56 = 3 := rfl
theorem sk_57 : sh 57 = 5 := rfl
theorem sk_58 : sh 58 = 0 := rfl
theorem sk_59 : sh 59 = 5 := rfl
theorem sk_60 : sh 60 = 0 := rfl
theorem sk_61 : sh 61 = 5 := rfl
theorem sk_62 : sh 62 = 0 := rfl
theorem sk_63 : sh 63 = 5 := rfl
theorem sk_64 : sh 64 = 0 := rfl
theorem sk_65 : sh 65 = 8 := rfl
theorem sk_66 : sh 66 = 5 := rfl
theorem sk_67 : sh 67 = 0 := rfl
theorem sk_68 : sh 68 = 5 := rfl
theorem sk_69 : sh 69 = 0 := rfl
theorem sk_70 : sh 70 = 5 := rfl
theorem sk_71 : sh 71 = 0 := rfl
theorem sk_72 : sh 72 = 5 := rfl
theorem sk_73 : sh 73 = 0 := rfl
theorem sk_74 : sh 74 = 5 := rfl
theorem sk_75 : sh 75 = 0 := rfl
theorem sk_76 : sh 76 = 5 := rfl
theorem sk_77 : sh 77 = 0 := rfl
theorem sk_78 : sh 78 = 5 := rfl
theorem sk_79 : sh 79 = 0 := rfl
theorem sk_80 : sh 80 = 5 := rfl
theorem sk_81 : sh 81 = 0 := rfl
theorem sk_82 : sh 82 = 5 := rfl
theorem sk_83 : sh 83 = 0 := rfl
theorem sk_84 : sh 84 = 7 := rfl
theorem sk_85 : sh 85 = 5 := rfl
theorem sk_86 : sh 86 = 0 := rfl
theorem sk_87 : sh 87 = 5 := rfl
theorem sk_88 : sh 88 = 0 := rfl
theorem sk_89 : sh 89 = 5 := rfl
theorem sk_90 : sh 90 = 0 := rfl
theorem sk_91 : sh 91 = 7 := rfl
theorem sk_92 : sh 92 = 5 := rfl
theorem sk_93 : sh 93 = 0 := rfl
theorem sk_94 : sh 94 = 5 := rfl
theorem sk_95 : sh 95 = 0 := rfl
theorem sk_96 : sh 96 = 5 := rfl
theorem sk_97 : sh 97 = 0 := rfl
theorem sk_98 : sh 98 = 5 := rfl
theorem sk_99 : sh 99 = 0 := rfl
theorem sk_100 : sh 100 = 5 := rfl
theorem sk_101 : sh 101 = 0 := rfl
theorem sk_102 : sh 102 = 9 := rfl
theorem sk_103 : sh 103 = 3 := rfl
theorem sk_104 : sh 104 = 5 := rfl
theorem sk_105 : sh 105 = 0 := rfl
theorem sk_106 : sh 106 = 5 := rfl
theorem sk_107 : sh 107 = 0 := rfl
theorem sk_108 : sh 108 = 5 := rfl
theorem sk_109 : sh 109 = 0 := rfl
theorem sk_110 : sh 110 = 5 := rfl
theorem sk_111 : sh 111 = 0 := rfl
theorem sk_112 : sh 112 = 8 := rfl
theorem sk_113 : sh 113 = 5 := rfl
theorem sk_114 : sh 114 = 0 := rfl
theorem sk_115 : sh 115 = 5 := rfl
theorem sk_116 : sh 116 = 0 := rfl
theorem sk_117 : sh 117 = 5 := rfl
theorem sk_118 : sh 118 = 0 := rfl
theorem sk_119 : sh 119 = 5 := rfl
theorem sk_120 : sh 120 = 0 := rfl
theorem sk_121 : sh 121 = 5 := rfl
theorem sk_122 : sh 122 = 0 := rfl
theorem sk_123 : sh 123 = 5 := rfl
theorem sk_124 : sh 124 = 0 := rfl
theorem sk_125 : sh 125 = 5 := rfl
theorem sk_126 : sh 126 = 0 := rfl
theorem sk_127 : sh 127 = 5 := rfl
theorem sk_128 : sh 128 = 0 := rfl
theorem sk_129 : sh 129 = 5 := rfl
theorem sk_130 : sh 130 = 0 := rfl
theorem sk_131 : sh 131 = 7 := rfl
theorem sk_132 : sh 132 = 5 := rfl
theorem sk_133 : sh 133 = 0 := rfl
theorem sk_134 : sh 134 = 5 := rfl
theorem sk_135 : sh 135 = 0 := rfl
theorem sk_136 : sh 136 = 5 := rfl
theorem sk_137 : sh 137 = 0 := rfl
theorem sk_138 : sh 138 = 7 := rfl
theorem sk_139 : sh 139 = 5 := rfl
theorem sk_140 : sh 140 = 0 := rfl
theorem sk_141 : sh 141 = 5 := rfl
theorem sk_142 : sh 142 = 0 := rfl
theorem sk_143 : sh 143 = 5 := rfl
theorem sk_144 : sh 144 = 0 := rfl
theorem sk_145 : sh 145 = 5 := rfl
theorem sk_146 : sh 146 = 0 := rfl
theorem sk_147 : sh 147 = 5 := rfl
theorem sk_148 : sh 148 = 0 := rfl
theorem sk_149 : sh 149 = 4 := rfl
theorem sk_150 : sh 150 = 5 := rfl
theorem sk_151 : sh 151 = 0 := rfl
theorem sk_152 : sh 152 = 5 := rfl
theorem sk_153 : sh 153 = 0 := rfl
theorem sk_154 : sh 154 = 10 := rfl
theorem sk_155 : sh 155 = 5 := rfl
theorem sk_156 : sh 156 = 0 := rfl
theorem sk_157 : sh 157 = 1 := rfl
theorem sk_158 : sh 158 = 6 := rfl
theorem sk_159 : sh 159 = 5 := rfl
theorem sk_160 : sh 160 = 0 := rfl
theorem sk_161 : sh 161 = 6 := rfl
theorem sk_162 : sh 162 = 5 := rfl
theorem sk_163 : sh 163 = 0 := rfl
theorem sk_164 : sh 164 = 6 := rfl
theorem sk_165 : sh 165 = 5 := rfl
theorem sk_166 : sh 166 = 0 := rfl
theorem sk_167 : sh 167 = 6 := rfl
theorem sk_168 : sh 168 = 5 := rfl
theorem sk_169 : sh 169 = 0 := rfl
theorem sk_170 : sh 170 = 5 := rfl
theorem sk_171 : sh 171 = 0 := rfl
theorem sk_172 : sh 172 = 12 := rfl
theorem sk_173 : sh 173 = 0 := rfl
theorem sk_174 : sh 174 = 0 := rfl
theorem sk_175 : sh 175 = 0 := rfl
theorem sk_176 : sh 176 = 0 := rfl
theorem sk_177 : sh 177 = 0 := rfl
theorem sk_178 : sh 178 = 0 := rfl
theorem sk_179 : sh 179 = 0 := rfl
theorem sk_180 : sh 180 = 0 := rfl
theorem sk_181 : sh 181 = 0 := rfl
theorem sk_182 : sh 182 = 0 := rfl
theorem sk_183 : sh 183 = 0 := rfl
theorem sk_184 : sh 184 = 0 := rfl
