/-! GUARDS -/
def wi (v b : Int32) : Int32 := if v < 0 then 0 else if b < v then 0 else 1
theorem cIn {S : St} {v b : Int32} : f_X11_within S v b = some (wi v b) := by
  unfold f_X11_within wi
  split
  · rfl
  · split <;> rfl
theorem mIn {S : St} {v b : Int32} : f_X12_in S v 0 b = some (wi v b) := by
  unfold f_X12_in wi
  split
  · rfl
  · split <;> rfl
theorem wi_bo {v b : Int32} : bo (wi v b) = true := by
  unfold wi
  split
  · decide
  · split <;> decide
theorem wi_n {v : Int32} {n : Nat} (hn : n < 2 ^ 31) : wi v (nI n) = 0 ∨ ∃ p, p ≤ n ∧ v = nI p ∧ wi v (nI n) = 1 := by
  unfold wi
  by_cases c : v < 0
  · rw [if_pos c]; exact Or.inl rfl
  · rw [if_neg c]
    obtain ⟨j, hj, rfl⟩ := nI_of c
    by_cases d : nI n < nI j
    · rw [if_pos d]; exact Or.inl rfl
    · rw [if_neg d]
      rw [nI_ltI hn hj] at d
      exact Or.inr ⟨j, by omega, rfl, rfl⟩
theorem wi_p {v : Int32} {n : Nat} (hn : n < 2 ^ 30) : wi v (nI n - 1) = 0 ∨ ∃ p, p < n ∧ v = nI p ∧ wi v (nI n - 1) = 1 := by
  rcases Nat.eq_zero_or_pos n with rfl | h0
  · unfold wi
    by_cases c : v < 0
    · rw [if_pos c]; exact Or.inl rfl
    · rw [if_neg c]
      obtain ⟨j, hj, rfl⟩ := nI_of c
      have : nI 0 - 1 < nI j := by rw [Int32.lt_iff_toInt_lt, nI_toInt hj, show (nI 0 - 1).toInt = -1 from by decide]; omega
      rw [if_pos this]; exact Or.inl rfl
  · rw [k1, nI_sub h0]
    rcases wi_n (v := v) (n := n - 1) (by omega) with e | ⟨p, h1, h2, h3⟩
    · exact Or.inl e
    · exact Or.inr ⟨p, by omega, h2, h3⟩
theorem wi_in {p n : Nat} (h : p ≤ n) (hn : n < 2 ^ 31) : wi (nI p) (nI n) = 1 := by
  unfold wi
  rw [if_neg (nI_pos (by omega)), if_neg (nI_nlt h hn)]
theorem wi_inp {p n : Nat} (h : p < n) (hn : n < 2 ^ 31) : wi (nI p) (nI n - 1) = 1 := by
  rw [k1, nI_sub (by omega)]
  exact wi_in (by omega) (by omega)
theorem cIsP {S : St} {m : Nat → Int32} {v : Int32} (h : RT S 8 m) (hW : WF m) : f_X11_isPerson S v = some (wi v (nI (w m 0) - 1)) := by
  unfold f_X11_isPerson
  rw [show f_X3_size S 9 = _ from cNp h hW (Or.inl rfl), bnd_some, cIn, bnd_some, if_pos wi_bo]
theorem cIsT {S : St} {m : Nat → Int32} {v : Int32} (h : RT S 8 m) (hW : WF m) : f_X11_isThing S v = some (wi v (nI (w m 1) - 1)) := by
  unfold f_X11_isThing
  rw [show f_X8_size S 18 = _ from cNt h hW (Or.inl rfl), bnd_some, cIn, bnd_some, if_pos wi_bo]
theorem mIsP {S : St} {m : Nat → Int32} {v : Int32} (hM : S.1 173 = m) (hW : WF m) : f_X12_isPerson S v = some (wi v (nI (w m 0) - 1)) := by
  unfold f_X12_isPerson
  rw [mIn, bnd_some, hM, hW.np.1, if_pos wi_bo]
theorem mIsT {S : St} {m : Nat → Int32} {v : Int32} (hM : S.1 173 = m) (hW : WF m) : f_X12_isThing S v = some (wi v (nI (w m 1) - 1)) := by
  unfold f_X12_isThing
  rw [mIn, bnd_some, hM, hW.nt.1, if_pos wi_bo]
/-! ERRORS -/
def E1 (S : St) (k : Nat) : St := pt S 171 k (S.1 171 k + 1)
def E2 (S : St) (k : Nat) : St := pt S 176 k (S.1 176 k + 1)
theorem cErr {S : St} {k : Nat} (h : S.1 170 1 = nI 7) (hk : k < 7) : f_X11_fail S (nI k) = some (-1000000000 - nI k, E1 S k) := by
  have hr : RW S 170 7 := ⟨h, by decide, by decide⟩
  unfold f_X11_fail E1
  rw [p_at hr hk, bnd_some, p_set hr hk, bnd_some]
theorem mErr {S : St} {k : Nat} (hk : k < 7) : f_X12_error S (nI k) = some (-1000000000 - nI k, E2 S k) := by
  unfold f_X12_error E2
  rw [if_pos (inb_nI hk (by decide)), if_pos (inb_nI hk (by decide)), nI_clamp (by omega)]
theorem E1_nek {S : St} {k q : Nat} (h : q ≠ 171) : (E1 S k).1 q = S.1 q := pt_nek h
theorem E2_nek {S : St} {k q : Nat} (h : q ≠ 176) : (E2 S k).1 q = S.1 q := pt_nek h
/-! WHAT HOLDS BETWEEN THE CALLS -/
def YR (m : Nat → Int32) : Prop := ∃ y, y ≤ 9999 ∧ m 3 = nI y
def TW (S : St) : Prop := RT S 8 (S.1 173) ∧ WF (S.1 173) ∧ YR (S.1 173)
def IM (S : St) : Prop := S.1 0 8 = S.1 172 3 ∧ (S.1 0 8 = 0 ∨ RT S 102 (S.1 174) ∧ WF (S.1 174) ∧ YR (S.1 174))
def ER (S : St) : Prop := S.1 170 1 = nI 7 ∧ ∀ k, k < 7 → S.1 171 k = S.1 176 k
def TC (S : St) : Prop := ∃ n, n ≤ 30 ∧ S.1 155 1 = nI n ∧ S.1 172 13 = nI n ∧ ∀ i, i < n → S.1 156 i = S.1 180 i
def SHc (S : St) (i : Nat) : Prop := ∃ n, n ≤ 24 ∧ S.1 (158 + 3 * i) 1 = S.1 181 i ∧ (S.1 181 i = 0 ∨ S.1 181 i = 8 ∨ S.1 181 i = 16 ∨ S.1 181 i = 32) ∧ S.1 (159 + 3 * i) 1 = nI n ∧ S.1 182 i = nI n ∧ ∀ j, j < n → S.1 (160 + 3 * i) j = S.1 183 (24 * i + j)
def N5 (S : St) : Prop := S.1 87 1 = nI 5 ∧ S.1 94 1 = nI 5 ∧ S.1 134 1 = nI 5 ∧ S.1 141 1 = nI 5
def IV (S : St) : Prop := TW S ∧ IM S ∧ ER S ∧ TC S ∧ (∀ i, i < 4 → SHc S i) ∧ N5 S
/-- what stays where only the town changes, and what is worked with -/
def QK (S S' : St) : Prop := ∀ q, (q = 0 ∨ 102 ≤ q) → (q < 149 ∨ 154 < q) → q ≠ 172 → q ≠ 173 → q ≠ 175 → q ≠ 177 → q ≠ 178 → q ≠ 179 → q ≠ 184 → S'.1 q = S.1 q
theorem QK.refl {S : St} : QK S S := fun _ _ _ _ _ _ _ _ _ _ => rfl
theorem QK.trans {S S' S'' : St} (h : QK S S') (h' : QK S' S'') : QK S S'' := fun q a b c d e f g i j => (h' q a b c d e f g i j).trans (h q a b c d e f g i j)
theorem IM.of {S S' : St} (h : IM S) (f : ∀ q, (q = 0 ∨ (102 ≤ q ∧ q < 149) ∨ q = 174) → S'.1 q = S.1 q) (f3 : S'.1 172 3 = S.1 172 3) : IM S' := by
  refine ⟨by rw [f 0 (Or.inl rfl), f3]; exact h.1, ?_⟩
  rw [f 0 (Or.inl rfl), f 174 (Or.inr (Or.inr rfl))]
  rcases h.2 with e | ⟨a, b, c⟩
  · exact Or.inl e
  · exact Or.inr ⟨a.fr (fun q x y => f q (by omega)), b, c⟩
theorem ER.of {S S' : St} (h : ER S) (f : ∀ q, (q = 170 ∨ q = 171 ∨ q = 176) → S'.1 q = S.1 q) : ER S' := by
  refine ⟨by rw [f 170 (by omega)]; exact h.1, fun k hk => ?_⟩
  rw [f 171 (by omega), f 176 (by omega)]
  exact h.2 k hk
theorem TC.of {S S' : St} (h : TC S) (f : ∀ q, (q = 155 ∨ q = 156 ∨ q = 180) → S'.1 q = S.1 q) (f3 : S'.1 172 13 = S.1 172 13) : TC S' := by
  obtain ⟨n, a, b, c, d⟩ := h
  refine ⟨n, a, by rw [f 155 (by omega)]; exact b, by rw [f3]; exact c, fun i hi => ?_⟩
  rw [f 156 (by omega), f 180 (by omega)]
  exact d i hi
theorem SHc.of {S S' : St} {i : Nat} (h : SHc S i) (f : ∀ q, (q = 158 + 3 * i ∨ q = 159 + 3 * i ∨ q = 160 + 3 * i) → S'.1 q = S.1 q) (f1 : S'.1 181 i = S.1 181 i) (f2 : S'.1 182 i = S.1 182 i) (f3 : ∀ j, j < 24 → S'.1 183 (24 * i + j) = S.1 183 (24 * i + j)) : SHc S' i := by
  obtain ⟨n, a, b, c, d, e, g⟩ := h
  refine ⟨n, a, by rw [f _ (by omega), f1]; exact b, by rw [f1]; exact c, by rw [f _ (by omega)]; exact d, by rw [f2]; exact e, fun j hj => ?_⟩
  rw [f _ (by omega), f3 _ (by omega)]
  exact g j hj
theorem IV.tw {S S' : St} (h : IV S) (f : QK S S') (f3 : S'.1 172 3 = S.1 172 3) (f13 : S'.1 172 13 = S.1 172 13) (n87 : S'.1 87 1 = nI 5) (n94 : S'.1 94 1 = nI 5) (hT : TW S') : IV S' := by
  obtain ⟨_, h2, h3, h4, h5, h6⟩ := h
  have g : ∀ q, (q = 0 ∨ 102 ≤ q) → (q < 149 ∨ (154 < q ∧ q < 172) ∨ q = 174 ∨ q = 176 ∨ (180 ≤ q ∧ q < 184)) → S'.1 q = S.1 q := fun q a b => f q a (by omega) (by omega) (by omega) (by omega) (by omega) (by omega) (by omega) (by omega)
  refine ⟨hT, h2.of (fun q a => g q (by omega) (by omega)) f3, h3.of (fun q a => g q (by omega) (by omega)), h4.of (fun q a => g q (by omega) (by omega)) f13, fun i hi => (h5 i hi).of (fun q a => g q (by omega) (by omega)) (by rw [g 181 (by omega) (by omega)]) (by rw [g 182 (by omega) (by omega)]) (fun j _ => by rw [g 183 (by omega) (by omega)]), n87, n94, ?_, ?_⟩
  · rw [g 134 (by omega) (by omega)]; exact h6.2.2.1
  · rw [g 141 (by omega) (by omega)]; exact h6.2.2.2
theorem IV.town {S S' : St} (h : IV S) (f : ∀ q, (q = 0 ∨ 55 ≤ q) → (q < 149 ∨ 154 < q) → q ≠ 173 → q ≠ 175 → q ≠ 177 → q ≠ 178 → q ≠ 179 → q ≠ 184 → S'.1 q = S.1 q) (hT : TW S') : IV S' := by
  refine h.tw (fun q a b c d e g i j k => f q (by omega) b d e g i j k) ?_ ?_ ?_ ?_ hT
  · rw [f 172 (by omega) (by omega) (by omega) (by omega) (by omega) (by omega) (by omega) (by omega)]
  · rw [f 172 (by omega) (by omega) (by omega) (by omega) (by omega) (by omega) (by omega) (by omega)]
  · rw [f 87 (by omega) (by omega) (by omega) (by omega) (by omega) (by omega) (by omega) (by omega)]; exact h.2.2.2.2.2.1
  · rw [f 94 (by omega) (by omega) (by omega) (by omega) (by omega) (by omega) (by omega) (by omega)]; exact h.2.2.2.2.2.2.1
theorem IV.err {S : St} (h : IV S) {k : Nat} : IV (E2 (E1 S k) k) := by
  obtain ⟨h1, h2, h3, h4, h5, h6⟩ := h
  have g : ∀ q, q ≠ 171 → q ≠ 176 → (E2 (E1 S k) k).1 q = S.1 q := fun q a b => by rw [E2_nek b, E1_nek a]
  refine ⟨⟨?_, ?_, ?_⟩, h2.of (fun q a => g q (by omega) (by omega)) (by rw [g 172 (by omega) (by omega)]), ⟨?_, fun j hj => ?_⟩, h4.of (fun q a => g q (by omega) (by omega)) (by rw [g 172 (by omega) (by omega)]), fun i hi => (h5 i hi).of (fun q a => g q (by omega) (by omega)) (by rw [g 181 (by omega) (by omega)]) (by rw [g 182 (by omega) (by omega)]) (fun j _ => by rw [g 183 (by omega) (by omega)]), ?_, ?_, ?_, ?_⟩
  · rw [g 173 (by omega) (by omega)]; exact h1.1.fr (fun q a b => g q (by omega) (by omega))
  · rw [g 173 (by omega) (by omega)]; exact h1.2.1
  · rw [g 173 (by omega) (by omega)]; exact h1.2.2
  · rw [g 170 (by omega) (by omega)]; exact h3.1
  · have e1 : (E2 (E1 S k) k).1 171 j = upd (S.1 171) k (S.1 171 k + 1) j := by rw [E2_nek (by omega)]; unfold E1; rw [pt_same]
    have e2 : (E2 (E1 S k) k).1 176 j = upd (S.1 176) k (S.1 176 k + 1) j := by unfold E2; rw [pt_same, E1_nek (by omega)]
    rw [e1, e2]
    by_cases c : j = k
    · subst c; rw [upd_same, upd_same, h3.2 j hj]
    · rw [upd_ne c, upd_ne c]; exact h3.2 j hj
  · rw [g 87 (by omega) (by omega)]; exact h6.1
  · rw [g 94 (by omega) (by omega)]; exact h6.2.1
  · rw [g 134 (by omega) (by omega)]; exact h6.2.2.1
  · rw [g 141 (by omega) (by omega)]; exact h6.2.2.2
/-- a call: both sides answer alike, and it holds again -/
def CC {α : Type} (S : St) (f g : St → Option (α × St)) : Prop := ∃ r S1 S2, f S = some (r, S1) ∧ (∀ q, 172 ≤ q → S1.1 q = S.1 q) ∧ g S1 = some (r, S2) ∧ IV S2
theorem CC.same {α : Type} {S : St} {f g : St → Option (α × St)} (h : IV S) {r : α} (h1 : f S = some (r, S)) (h2 : g S = some (r, S)) : CC S f g := ⟨r, S, S, h1, fun _ _ => rfl, h2, h⟩
theorem CC.err {α : Type} {S : St} {f g : St → Option (α × St)} {φ : Int32 → α} (h : IV S) {k : Nat} (hk : k < 7) (h1 : f S = bnd2 (f_X11_fail S (nI k)) (fun a s => some (φ a, s))) (h2 : g (E1 S k) = bnd2 (f_X12_error (E1 S k) (nI k)) (fun a s => some (φ a, s))) : CC S f g := by
  refine ⟨φ (-1000000000 - nI k), E1 S k, E2 (E1 S k) k, ?_, fun q hq => E1_nek (by omega), ?_, h.err⟩
  · rw [h1, cErr h.2.2.1.1 hk, bnd2_some]
  · rw [h2, mErr hk, bnd2_some]
theorem CC.gp {α : Type} {S : St} {f g F H : St → Option (α × St)} {φ : Int32 → α} {v : Int32} (h : IV S) (G1 : ∀ s, f s = bnd (f_X11_isPerson s v) (fun a => if a = 0 then bnd2 (f_X11_fail s 1) (fun a s => some (φ a, s)) else F s)) (G2 : ∀ s, g s = bnd (f_X12_isPerson s v) (fun a => if a = 0 then bnd2 (f_X12_error s 1) (fun a s => some (φ a, s)) else H s)) (hx : ∀ p, p < w (S.1 173) 0 → v = nI p → CC S F H) : CC S f g := by
  have hW := h.1.2.1
  have hp := hW.np.2
  rcases wi_p (v := v) (n := w (S.1 173) 0) (by omega) with e | ⟨p, hp', e1, e⟩
  · refine CC.err h (k := 1) (φ := φ) (by decide) ?_ ?_
    · rw [G1, cIsP h.1.1 hW, bnd_some, e, if_pos rfl]; rfl
    · rw [G2, mIsP (m := S.1 173) (E1_nek (by decide)) hW, bnd_some, e, if_pos rfl]; rfl
  · obtain ⟨r, S1, S2, a, b, c, d⟩ := hx p hp' e1
    refine ⟨r, S1, S2, ?_, b, ?_, d⟩
    · rw [G1, cIsP h.1.1 hW, bnd_some, e, if_neg (by decide)]; exact a
    · rw [G2, mIsP (m := S.1 173) (b 173 (by decide)) hW, bnd_some, e, if_neg (by decide)]; exact c
theorem CC.gt {α : Type} {S : St} {f g F H : St → Option (α × St)} {φ : Int32 → α} {v : Int32} (h : IV S) (G1 : ∀ s, f s = bnd (f_X11_isThing s v) (fun a => if a = 0 then bnd2 (f_X11_fail s 1) (fun a s => some (φ a, s)) else F s)) (G2 : ∀ s, g s = bnd (f_X12_isThing s v) (fun a => if a = 0 then bnd2 (f_X12_error s 1) (fun a s => some (φ a, s)) else H s)) (hx : ∀ p, p < w (S.1 173) 1 → v = nI p → CC S F H) : CC S f g := by
  have hW := h.1.2.1
  have hp := hW.nt.2
  rcases wi_p (v := v) (n := w (S.1 173) 1) (by omega) with e | ⟨p, hp', e1, e⟩
  · refine CC.err h (k := 1) (φ := φ) (by decide) ?_ ?_
    · rw [G1, cIsT h.1.1 hW, bnd_some, e, if_pos rfl]; rfl
    · rw [G2, mIsT (m := S.1 173) (E1_nek (by decide)) hW, bnd_some, e, if_pos rfl]; rfl
  · obtain ⟨r, S1, S2, a, b, c, d⟩ := hx p hp' e1
    refine ⟨r, S1, S2, ?_, b, ?_, d⟩
    · rw [G1, cIsT h.1.1 hW, bnd_some, e, if_neg (by decide)]; exact a
    · rw [G2, mIsT (m := S.1 173) (b 173 (by decide)) hW, bnd_some, e, if_neg (by decide)]; exact c
theorem CC.gw {α : Type} {S : St} {f g F H : St → Option (α × St)} {φ : Int32 → α} {v c : Int32} (n : Nat) (h : IV S) (hc : c = nI n) (hn : n < 2 ^ 31) (G1 : ∀ s, f s = bnd (f_X11_within s v c) (fun a => if a = 0 then bnd2 (f_X11_fail s 1) (fun a s => some (φ a, s)) else F s)) (G2 : ∀ s, g s = bnd (f_X12_in s v 0 c) (fun a => if a = 0 then bnd2 (f_X12_error s 1) (fun a s => some (φ a, s)) else H s)) (hx : ∀ p, p ≤ n → v = nI p → CC S F H) : CC S f g := by
  subst hc
  rcases wi_n (v := v) (n := n) hn with e | ⟨p, hp', e1, e⟩
  · refine CC.err h (k := 1) (φ := φ) (by decide) ?_ ?_
    · rw [G1, cIn, bnd_some, e, if_pos rfl]; rfl
    · rw [G2, mIn, bnd_some, e, if_pos rfl]; rfl
  · obtain ⟨r, S1, S2, a, b, c, d⟩ := hx p hp' e1
    refine ⟨r, S1, S2, ?_, b, ?_, d⟩
    · rw [G1, cIn, bnd_some, e, if_neg (by decide)]; exact a
    · rw [G2, mIn, bnd_some, e, if_neg (by decide)]; exact c
theorem cOne1 {S : St} {v : Int32} : f_X1_isOne S v = some (wi v 6) := by
  unfold f_X1_isOne wi
  by_cases c : v < 0
  · rw [if_pos c, if_pos c]
  · rw [if_neg c, if_neg c]
    obtain ⟨j, hj, rfl⟩ := nI_of c
    rw [show Int32.ofNat 7 = nI 7 from rfl, k6]
    by_cases d : j < 7
    · rw [if_neg (nI_ge d (by decide)), if_neg (nI_nlt (by omega) (by decide))]
    · rw [if_pos (nI_le (by omega) hj), if_pos (nI_lt (by omega) hj)]
theorem CC.gk {α : Type} {S : St} {f g F H : St → Option (α × St)} {φ : Int32 → α} {v : Int32} (h : IV S) (G1 : ∀ s, f s = bnd (f_X1_isOne s v) (fun a => if a = 0 then bnd2 (f_X11_fail s 1) (fun a s => some (φ a, s)) else F s)) (G2 : ∀ s, g s = bnd (f_X12_in s v 0 6) (fun a => if a = 0 then bnd2 (f_X12_error s 1) (fun a s => some (φ a, s)) else H s)) (hx : ∀ p, p ≤ 6 → v = nI p → CC S F H) : CC S f g := by
  rcases wi_n (v := v) (n := 6) (by decide) with e | ⟨p, hp', e1, e⟩
  · refine CC.err h (k := 1) (φ := φ) (by decide) ?_ ?_
    · rw [G1, cOne1, bnd_some, k6, e, if_pos rfl]; rfl
    · rw [G2, mIn, bnd_some, k6, e, if_pos rfl]; rfl
  · obtain ⟨r, S1, S2, a, b, c, d⟩ := hx p hp' e1
    refine ⟨r, S1, S2, ?_, b, ?_, d⟩
    · rw [G1, cOne1, bnd_some, k6, e, if_neg (by decide)]; exact a
    · rw [G2, mIn, bnd_some, k6, e, if_neg (by decide)]; exact c
