/-! THE TOWN: a place t of the class's world against a row m of 516 numbers, as the model has it -/
def w (m : Nat → Int32) (x : Nat) : Nat := (m x).toNatClampNeg
def off (k : Nat) : Nat := [2, 4, 6, 8, 11, 13, 15, 17, 19, 21, 23, 25, 27, 43, 45].getD k 0
def bas (k : Nat) : Nat := [20, 21, 22, 23, 44, 45, 46, 47, 110, 92, 93, 94, 10, 432, 492].getD k 0
def stp (k : Nat) : Nat := [4, 4, 4, 4, 4, 4, 4, 4, 1, 3, 3, 3, 1, 1, 1].getD k 0
def cap (k : Nat) : Nat := [6, 6, 6, 6, 12, 12, 12, 12, 72, 6, 6, 6, 5, 60, 24].getD k 0
def cntx (k : Nat) : Nat := [0, 0, 0, 0, 1, 1, 1, 1, 99, 2, 2, 2, 98, 6, 7].getD k 0
def siz (m : Nat → Int32) (k : Nat) : Nat := if k = 8 then 72 else if k = 12 then 5 else w m (cntx k)
def cel (k i : Nat) : Nat := bas k + stp k * i
def rowOf (x : Nat) : Nat := if x < 10 then 99 else if x < 15 then 12 else if x < 20 then 99 else if x < 44 then (x - 20) % 4 else if x < 92 then 4 + (x - 44) % 4 else if x < 110 then 9 + (x - 92) % 3 else if x < 182 then 8 else if x < 432 then 99 else if x < 492 then 13 else 14
theorem rowOf_cel {k i : Nat} (hk : k < 15) (hi : i < cap k) : rowOf (cel k i) = k := by
  have h : (List.range 15).all (fun k => (List.range (cap k)).all (fun i => rowOf (cel k i) == k)) = true := by decide +kernel
  have h1 := List.all_eq_true.mp h k (List.mem_range.mpr hk)
  have h2 := List.all_eq_true.mp h1 i (List.mem_range.mpr hi)
  exact eq_of_beq h2
theorem cel_inj {k i j : Nat} (hk : k < 15) (h : cel k i = cel k j) : i = j := by
  unfold cel at h
  have : 0 < stp k := by
    have h : (List.range 15).all (fun k => decide (0 < stp k)) = true := by decide +kernel
    exact of_decide_eq_true (List.all_eq_true.mp h k (List.mem_range.mpr hk))
  exact Nat.eq_of_mul_eq_mul_left this (by omega)
def TP (t : Nat) : Prop := t = 8 ∨ t = 55 ∨ t = 102
theorem ln_row {t k : Nat} (ht : TP t) (hk : k < 15) : ln (t + off k + 1) = cap k := by
  have h : ([8, 55, 102] : List Nat).all (fun t => (List.range 15).all (fun k => ln (t + off k + 1) == cap k)) = true := by decide +kernel
  have h1 := List.all_eq_true.mp h t (by rcases ht with rfl | rfl | rfl <;> simp)
  exact eq_of_beq (List.all_eq_true.mp h1 k (List.mem_range.mpr hk))
theorem cap_lt (k : Nat) (hk : k < 15) : cap k < 100 := by
  have h : (List.range 15).all (fun k => decide (cap k < 100)) = true := by decide +kernel
  exact of_decide_eq_true (List.all_eq_true.mp h k (List.mem_range.mpr hk))
/-- below lim x: 0 where nothing is asked -/
def lim (x : Nat) : Nat := if x = 0 then 7 else if x = 1 then 13 else if x = 2 then 7 else if x = 5 then 2000000000 else if x = 6 then 61 else if x = 7 then 25 else if x < 10 then 0 else if x < 15 then [100, 100, 3, 10, 1000].getD (x - 10) 0 else if x < 20 then 0
  else if x < 44 then [7, 1000000, 10, 10].getD ((x - 20) % 4) 0 else if x < 92 then [6, 10000, 101, 2].getD ((x - 44) % 4) 0 else if x < 110 then [12, 12, 10000].getD ((x - 92) % 3) 0 else if x < 182 then 10000 else if x < 432 then 0 else if x < 492 then 256 else 0
theorem lim_lt (x : Nat) : lim x < 2 ^ 31 := by
  by_cases hx : x < 516
  · have h : (List.range 516).all (fun j => decide (lim j < 2 ^ 31)) = true := by decide +kernel
    exact of_decide_eq_true (List.all_eq_true.mp h x (List.mem_range.mpr hx))
  · unfold lim
    rw [if_neg (by omega), if_neg (by omega), if_neg (by omega), if_neg (by omega), if_neg (by omega), if_neg (by omega), if_neg (by omega), if_neg (by omega), if_neg (by omega), if_neg (by omega), if_neg (by omega), if_neg (by omega), if_neg (by omega), if_neg (by omega), if_neg (by omega)]
    decide
/-- a text's steps: 0 a number, 1 a name, 2 not, 3 a sign; how many values lie after k of them -/
def tb (u : Nat) : Nat := 182 + 125 * u
def twh (m : Nat → Int32) (u k : Nat) : Nat := w m (tb u + 1 + 2 * k)
def dpt (m : Nat → Int32) (u : Nat) : Nat → Nat
  | 0 => 0
  | k + 1 => if twh m u k < 2 then dpt m u k + 1 else if twh m u k = 2 then dpt m u k else dpt m u k - 1
def isNm (u : Nat) (c : Int32) : Prop := c = 118 ∨ c = 114 ∨ (if u = 0 then c = 109 ∨ c = 112 ∨ c = 121 else c = 115 ∨ c = 99 ∨ c = 117)
def isSg (c : Int32) : Prop := c = 43 ∨ c = 45 ∨ c = 42 ∨ c = 47 ∨ c = 37 ∨ c = 60 ∨ c = 61 ∨ c = 62 ∨ c = 38 ∨ c = 124
def TX (m : Nat → Int32) (u : Nat) : Prop := m (tb u) = nI (w m (tb u)) ∧ w m (tb u) ≤ 60 ∧ (0 < w m (tb u) → dpt m u (w m (tb u)) = 1) ∧
  ∀ k, k < w m (tb u) → m (tb u + 1 + 2 * k) = nI (twh m u k) ∧ twh m u k ≤ 3 ∧ (twh m u k = 0 → m (tb u + 2 + 2 * k) = nI (w m (tb u + 2 + 2 * k)) ∧ w m (tb u + 2 + 2 * k) < 10000) ∧ (twh m u k = 1 → isNm u (m (tb u + 2 + 2 * k))) ∧ (twh m u k = 2 → 0 < dpt m u k) ∧ (twh m u k = 3 → 1 < dpt m u k ∧ isSg (m (tb u + 2 + 2 * k)))
/-- the class's own spelling of a step -/
def enc (u : Nat) (what v : Int32) : Int32 := if what = 0 then v else if what = 1 then 10000 + idxS (2 + u) v else if what = 2 then 20033 else 20000 + v
def WF (m : Nat → Int32) : Prop := (∀ x, 0 < lim x → m x = nI (w m x) ∧ w m x < lim x) ∧ (∀ p, p < w m 0 → 0 < w m (23 + 4 * p)) ∧ (∀ i, i < w m 1 → w m (44 + 4 * i) < w m 0) ∧ (∀ k, k < w m 2 → w m (92 + 3 * k) < w m 1 ∧ w m (93 + 3 * k) < w m 1) ∧ TX m 0 ∧ TX m 1
def rowR (S : St) (r n b s : Nat) (m : Nat → Int32) : Prop := S.1 r 1 = nI n ∧ ∀ i, i < n → S.1 (r + 1) i = m (b + s * i)
def txtR (S : St) (t u : Nat) (m : Nat → Int32) : Prop := S.1 (t + 30 + 7 * u) 1 = nI (w m (tb u)) ∧ (∀ k, k < w m (tb u) → S.1 (t + 31 + 7 * u) k = enc u (m (tb u + 1 + 2 * k)) (m (tb u + 2 + 2 * k))) ∧ S.1 (t + 32 + 7 * u) 1 = nI 5
def RT (S : St) (t : Nat) (m : Nat → Int32) : Prop := (∀ k, k < 15 → rowR S (t + off k) (siz m k) (bas k) (stp k) m) ∧ txtR S t 0 m ∧ txtR S t 1 m ∧ S.1 t 11 = m 3 ∧ S.1 t 12 = m 4 ∧ S.1 t 13 = m 5 ∧ S.1 t 14 = m 8
/-- the class's world but for a town and the scratch -/
def FrC (t : Nat) (S S' : St) : Prop := ∀ q, (q = 0 ∨ 8 ≤ q) → ¬ (t ≤ q ∧ q < t + 47) → S'.1 q = S.1 q
theorem FrC.refl {t : Nat} {S : St} : FrC t S S := fun _ _ _ => rfl
theorem FrC.trans {t : Nat} {S S' S'' : St} (h : FrC t S S') (h' : FrC t S' S'') : FrC t S S'' := fun q a b => (h' q a b).trans (h q a b)
theorem FrC.pt {t : Nat} {S S' : St} {q j : Nat} {v : Int32} (h : FrC t S S') (hq : (t ≤ q ∧ q < t + 47) ∨ (0 < q ∧ q < 8)) : FrC t S (pt S' q j v) := fun q' a b => by
  rw [pt_nek (fun e => by subst e; rcases hq with hq | hq <;> omega)]; exact h q' a b
theorem FrC.pq {t : Nat} {S S' : St} {q : Nat} {v : Int64} (h : FrC t S S') : FrC t S (pq S' q v) := fun q' a b => h q' a b
theorem RT.fr {S S' : St} {t : Nat} {m : Nat → Int32} (h : RT S t m) (hf : ∀ q, t ≤ q → q < t + 47 → S'.1 q = S.1 q) : RT S' t m := by
  obtain ⟨h1, h2, h3, h4, h5, h6, h7⟩ := h
  have ho : ∀ k, k < 15 → off k < 46 := fun k hk => by
    have h : (List.range 15).all (fun k => decide (off k < 46)) = true := by decide +kernel
    exact of_decide_eq_true (List.all_eq_true.mp h k (List.mem_range.mpr hk))
  refine ⟨fun k hk => ?_, ?_, ?_, ?_, ?_, ?_, ?_⟩
  · have := ho k hk
    refine ⟨by rw [hf _ (by omega) (by omega)]; exact (h1 k hk).1, fun i hi => by rw [hf _ (by omega) (by omega)]; exact (h1 k hk).2 i hi⟩
  · exact ⟨by rw [hf _ (by omega) (by omega)]; exact h2.1, fun k hk => by rw [hf _ (by omega) (by omega)]; exact h2.2.1 k hk, by rw [hf _ (by omega) (by omega)]; exact h2.2.2⟩
  · exact ⟨by rw [hf _ (by omega) (by omega)]; exact h3.1, fun k hk => by rw [hf _ (by omega) (by omega)]; exact h3.2.1 k hk, by rw [hf _ (by omega) (by omega)]; exact h3.2.2⟩
  all_goals rw [hf _ (by omega) (by omega)]; assumption
theorem upd_w_ne {m : Nat → Int32} {x y : Nat} {v : Int32} (h : y ≠ x) : w (upd m x v) y = w m y := by unfold w; rw [upd_ne h]
theorem siz_upd {m : Nat → Int32} {x k : Nat} {v : Int32} (h : x ≠ 0 ∧ x ≠ 1 ∧ x ≠ 2 ∧ x ≠ 6 ∧ x ≠ 7) (hk : k < 15) : siz (upd m x v) k = siz m k := by
  unfold siz
  by_cases h8 : k = 8
  · rw [if_pos h8, if_pos h8]
  · by_cases h12 : k = 12
    · rw [if_neg h8, if_pos h12, if_neg h8, if_pos h12]
    · rw [if_neg h8, if_neg h12, if_neg h8, if_neg h12]
      refine upd_w_ne ?_
      have h2 : (List.range 15).all (fun k => decide (k = 8 ∨ k = 12 ∨ cntx k = 0 ∨ cntx k = 1 ∨ cntx k = 2 ∨ cntx k = 6 ∨ cntx k = 7)) = true := by decide +kernel
      have h3 := of_decide_eq_true (List.all_eq_true.mp h2 k (List.mem_range.mpr hk))
      omega
theorem dpt_congr {m m' : Nat → Int32} {u : Nat} (h : ∀ x, tb u ≤ x → x < tb u + 125 → m' x = m x) : ∀ k, k ≤ 62 → dpt m' u k = dpt m u k := by
  intro k
  induction k with
  | zero => intro _; rfl
  | succ k ih =>
    intro hk
    have e : twh m' u k = twh m u k := by unfold twh w; rw [h _ (by omega) (by omega)]
    unfold dpt
    rw [e, ih (by omega)]
theorem TX.congr {m m' : Nat → Int32} {u : Nat} (hT : TX m u) (h : ∀ x, tb u ≤ x → x < tb u + 125 → m' x = m x) : TX m' u := by
  have e0 : m' (tb u) = m (tb u) := h _ (by omega) (by omega)
  have ew : w m' (tb u) = w m (tb u) := by unfold w; rw [e0]
  obtain ⟨h1, h2, h3, h4⟩ := hT
  refine ⟨by rw [e0, ew]; exact h1, by rw [ew]; exact h2, fun g => ?_, fun k hk => ?_⟩
  · rw [ew] at g ⊢
    rw [dpt_congr h _ (by omega)]; exact h3 g
  · rw [ew] at hk
    have e1 : m' (tb u + 1 + 2 * k) = m (tb u + 1 + 2 * k) := h _ (by omega) (by omega)
    have e2 : m' (tb u + 2 + 2 * k) = m (tb u + 2 + 2 * k) := h _ (by omega) (by omega)
    have e3 : twh m' u k = twh m u k := by unfold twh w; rw [e1]
    have e4 : w m' (tb u + 2 + 2 * k) = w m (tb u + 2 + 2 * k) := by unfold w; rw [e2]
    rw [e1, e2, e3, e4, dpt_congr h _ (by omega)]
    exact h4 k hk
theorem txtR.congr {S S' : St} {t u : Nat} {m m' : Nat → Int32} (hT : txtR S t u m) (hw : w m (tb u) ≤ 60) (h : ∀ x, tb u ≤ x → x < tb u + 125 → m' x = m x) (hS : S'.1 (t + 30 + 7 * u) = S.1 (t + 30 + 7 * u) ∧ S'.1 (t + 31 + 7 * u) = S.1 (t + 31 + 7 * u) ∧ S'.1 (t + 32 + 7 * u) 1 = S.1 (t + 32 + 7 * u) 1) : txtR S' t u m' := by
  have ew : w m' (tb u) = w m (tb u) := by unfold w; rw [h _ (by omega) (by omega)]
  refine ⟨by rw [hS.1, ew]; exact hT.1, fun k hk => ?_, by rw [hS.2.2]; exact hT.2.2⟩
  rw [ew] at hk
  rw [hS.2.1, h _ (by omega) (by omega), h _ (by omega) (by omega)]
  exact hT.2.1 k hk
/-- one number of a row, written on both sides -/
theorem RT.set {S : St} {t : Nat} {m : Nat → Int32} (h : RT S t m) (hw0 : w m (tb 0) ≤ 60) (hw1 : w m (tb 1) ≤ 60) (hsz : ∀ k, k < 15 → siz m k ≤ cap k) {k i : Nat} (hk : k < 15) (hi : i < siz m k) (v : Int32) : RT (pt S (t + off k + 1) i v) t (upd m (cel k i) v) := by
  have hr := rowOf_cel hk (Nat.lt_of_lt_of_le hi (hsz k hk))
  have hx : ∀ x, rowOf x = 99 → x ≠ cel k i := fun x hx e => by rw [e, hr] at hx; omega
  have hs : ∀ k', k' < 15 → siz (upd m (cel k i) v) k' = siz m k' := fun k' hk' => siz_upd ⟨fun e => hx 0 rfl e.symm, fun e => hx 1 rfl e.symm, fun e => hx 2 rfl e.symm, fun e => hx 6 rfl e.symm, fun e => hx 7 rfl e.symm⟩ hk'
  have ht : ∀ u, u < 2 → ∀ x, tb u ≤ x → x < tb u + 125 → upd m (cel k i) v x = m x := fun u hu x h1 h2 => upd_ne (hx x (by
    unfold tb at h1 h2
    unfold rowOf
    rw [if_neg (by omega), if_neg (by omega), if_neg (by omega), if_neg (by omega), if_neg (by omega), if_neg (by omega), if_neg (by omega), if_pos (by omega)]))
  have hoff : ∀ k', k' < 15 → off k' ≠ off k + 1 ∧ (k' ≠ k → off k' ≠ off k) := fun k' hk' => by
    have h : (List.range 15).all (fun k => (List.range 15).all (fun k' => decide (off k' ≠ off k + 1 ∧ (k' ≠ k → off k' ≠ off k)))) = true := by decide +kernel
    exact of_decide_eq_true (List.all_eq_true.mp (List.all_eq_true.mp h k (List.mem_range.mpr hk)) k' (List.mem_range.mpr hk'))
  have hno : (off k < 30 ∨ 42 < off k) ∧ off k + 1 ≠ 30 ∧ off k ≠ 0 := by
    have h : (List.range 15).all (fun k => decide ((off k < 30 ∨ 42 < off k) ∧ off k + 1 ≠ 30 ∧ off k ≠ 0)) = true := by decide +kernel
    exact of_decide_eq_true (List.all_eq_true.mp h k (List.mem_range.mpr hk))
  obtain ⟨h1, h2, h3, h4, h5, h6, h7⟩ := h
  refine ⟨fun k' hk' => ?_, ?_, ?_, ?_, ?_, ?_, ?_⟩
  · have ho := hoff k' hk'
    refine ⟨by rw [pt_nek (by omega), hs k' hk']; exact (h1 k' hk').1, fun j hj => ?_⟩
    rw [hs k' hk'] at hj
    by_cases e : k' = k
    · subst e
      by_cases ej : j = i
      · subst ej; rw [pt_at]; exact (upd_same).symm
      · show _ = upd m (cel k' i) v (cel k' j)
        rw [pt_nej ej, upd_ne (fun g => ej (cel_inj hk g))]
        exact (h1 k' hk').2 j hj
    · have := ho.2 e
      show _ = upd m (cel k i) v (cel k' j)
      rw [pt_nek (by omega), upd_ne (fun g => e (by
        have a := rowOf_cel hk' (Nat.lt_of_lt_of_le hj (hsz k' hk'))
        rw [show cel k' j = cel k i from g, hr] at a
        exact a.symm))]
      exact (h1 k' hk').2 j hj
  · exact h2.congr hw0 (ht 0 (by decide)) ⟨pt_nek (by omega), pt_nek (by omega), by rw [pt_nek (by omega)]⟩
  · exact h3.congr hw1 (ht 1 (by decide)) ⟨pt_nek (by omega), pt_nek (by omega), by rw [pt_nek (by omega)]⟩
  · rw [pt_nek (by omega), upd_ne (hx 3 rfl)]; exact h4
  · rw [pt_nek (by omega), upd_ne (hx 4 rfl)]; exact h5
  · rw [pt_nek (by omega), upd_ne (hx 5 rfl)]; exact h6
  · rw [pt_nek (by omega), upd_ne (hx 8 rfl)]; exact h7
