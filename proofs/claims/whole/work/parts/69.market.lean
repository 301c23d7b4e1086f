/-! THE MARKET -/
theorem lp_add {α : Type} {f : Nat → α → α} : ∀ (a b i : Nat) (x : α), lp f (a + b) i x = lp f b (i + a) (lp f a i x) := by
  intro a
  induction a with
  | zero => intro b i x; rw [Nat.zero_add]; rfl
  | succ a ih =>
    intro b i x
    rw [show a + 1 + b = (a + b) + 1 by omega]
    show lp f (a + b) (i + 1) (f i x) = lp f b (i + (a + 1)) (lp f a (i + 1) (f i x))
    rw [ih, show i + 1 + a = i + (a + 1) by omega]
theorem lp_shift {α : Type} {f : Nat → α → α} : ∀ (k i : Nat) (x : α), lp f k (i + 1) x = lp (fun j => f (j + 1)) k i x := by
  intro k
  induction k with
  | zero => intro i x; rfl
  | succ k ih =>
    intro i x
    show lp f k (i + 1 + 1) (f (i + 1) x) = lp (fun j => f (j + 1)) k (i + 1) (f (i + 1) x)
    rw [ih]
def sk (o j : Nat) : Nat := if j < o then j else j + 1
def nb (o p : Nat) : Nat := if p ≤ o then p else p - 1
/-- all but one -/
theorem lp_skip {α : Type} {g : Nat → α → α} {o n : Nat} (h : o < n) (x : α) : lp (fun p a => if p = o then a else g p a) n 0 x = lp (fun j a => g (sk o j) a) (n - 1) 0 x := by
  obtain ⟨r, rfl⟩ : ∃ r, n = o + (1 + r) := ⟨n - o - 1, by omega⟩
  rw [lp_add, lp_add, show o + (1 + r) - 1 = o + r by omega, lp_add]
  have e1 : lp (fun p a => if p = o then a else g p a) o 0 x = lp (fun j a => g (sk o j) a) o 0 x := lp_congr o 0 x (fun j b h1 h2 => by
    have : j < o := by omega
    show (if j = o then b else g j b) = g (sk o j) b
    unfold sk
    rw [if_neg (by omega), if_pos this])
  rw [e1]
  generalize lp (fun j a => g (sk o j) a) o 0 x = y
  have e2 : lp (fun p a => if p = o then a else g p a) 1 (0 + o) y = y := by
    show (if 0 + o = o then y else g (0 + o) y) = y
    rw [if_pos (by omega)]
  rw [e2, lp_shift, Nat.zero_add]
  exact lp_congr r o y (fun j b h1 h2 => by
    show (if j + 1 = o then b else g (j + 1) b) = g (sk o j) b
    unfold sk
    rw [if_neg (by omega), if_neg (by omega)])
theorem sk_nb {o p : Nat} (h : p ≠ o) : sk o (nb o p) = p := by unfold sk nb; split <;> split <;> omega
theorem sk_lt {o n j : Nat} (h : j < n - 1) : sk o j < n ∧ sk o j ≠ o := by unfold sk; split <;> omega
def whl (m : Nat → Int32) (o : Nat) : Int64 := lp (fun p a => if p = o then a else a * (m (23 + 4 * p)).toInt64) (w m 0) 0 1
def lft (m : Nat → Int32) (o i : Nat) (c : Int32) : Int64 := lp (fun p a => if p = o then a else a * (if nI (val m p i) ≤ c then (m (23 + 4 * p)).toInt64 else (m (23 + 4 * p) - m (22 + 4 * p)).toInt64)) (w m 0) 0 1
def MK (s : St) (m : Nat → Int32) (o i : Nat) (n : Nat) : Prop := s.1 1 4 = nI (val m o i) ∧ s.1 2 1 = nI n ∧ s.1 4 1 = nI n ∧ s.1 6 1 = nI n ∧ ∀ j, j < n → s.1 3 j = nI (val m (sk o j) i) ∧ s.1 5 j = m (23 + 4 * sk o j) - m (22 + 4 * sk o j) ∧ s.1 7 j = m (23 + 4 * sk o j)
theorem TP.ge {t : Nat} (h : TP t) : 8 ≤ t := by rcases h with rfl | rfl | rfl <;> decide
def PF (S S' : St) : Prop := ∀ q, (q = 0 ∨ 8 ≤ q) → S'.1 q = S.1 q
theorem cLook {N : Nat} (hN : 100 < N) {S : St} {t : Nat} {m : Nat → Int32} (h : RT S t m) (hW : WF m) (ht : TP t) {i : Nat} (hi : i < w m 1) :
    ∃ S', f_X2_look N S t (nI i) = some S' ∧ PF S S' ∧ MK S' m (own m i) i (w m 0 - 1) ∧ S'.2 1 = whl m (own m i) := by
  have hp6 := hW.np.2
  have ho := own_lt hW hi
  have hi2 := hW.nt.2
  have hstep : ∀ (f p : Nat) (s : St) (a : Int64), p < w m 0 → (PF S s ∧ MK s m (own m i) i (nb (own m i) p) ∧ s.2 1 = a) → ∃ s', f_X2_look_57 N (f + 1) s t (nI i) (nI (own m i)) (nI p) = f_X2_look_57 N f s' t (nI i) (nI (own m i)) (nI (p + 1)) ∧ (PF S s' ∧ MK s' m (own m i) i (nb (own m i) (p + 1)) ∧ s'.2 1 = (if p = own m i then a else a * (m (23 + 4 * p)).toInt64)) := by
    intro f p s a hp hR
    obtain ⟨r1, r2, r3⟩ := hR
    have hT : RT s t m := h.fr (fun q h1 h2 => r1 q (Or.inr (by have := ht.ge; omega)))
    have hx : ∀ s'' : St, f_X2_look_149 N (f_X2_look_57 N f) s'' t (nI i) (nI (own m i)) (nI p) = f_X2_look_57 N f s'' t (nI i) (nI (own m i)) (nI (p + 1)) := fun s'' => by unfold f_X2_look_149; rw [nI_1]
    by_cases c : p = own m i
    · refine ⟨s, ?_, r1, ?_, by rw [if_pos c]; exact r3⟩
      · rw [f_X2_look_57, cNp hT hW ht, bnd_some, if_neg (nI_ge hp (by omega)), if_pos (by rw [c]), hx]
      · have : nb (own m i) (p + 1) = nb (own m i) p := by unfold nb; rw [if_neg (by omega), if_pos (by omega)]; omega
        rw [this]; exact r2
    · have hn : nb (own m i) (p + 1) = nb (own m i) p + 1 := by unfold nb; split <;> split <;> omega
      have hn5 : nb (own m i) p < 6 := by unfold nb; split <;> omega
      have hsk := sk_nb c
      generalize nb (own m i) p = n at *
      obtain ⟨g1, g2, g3, g4, g5⟩ := r2
      have a1 : f_X5_add s 2 (nI (val m p i)) = some (pt (pt s 3 n (nI (val m p i))) 2 1 (nI (n + 1))) := p_add ⟨g2, Nat.le_of_lt hn5, by decide⟩ hn5
      have a2 : f_X5_add (pt (pt s 3 n (nI (val m p i))) 2 1 (nI (n + 1))) 4 (m (23 + 4 * p) - m (22 + 4 * p)) = some (pt (pt (pt (pt s 3 n (nI (val m p i))) 2 1 (nI (n + 1))) 5 n (m (23 + 4 * p) - m (22 + 4 * p))) 4 1 (nI (n + 1))) := p_add ⟨by rw [pt_nek (by decide), pt_nek (by decide)]; exact g3, Nat.le_of_lt hn5, by decide⟩ hn5
      have a3 : f_X5_add (pt (pt (pt (pt s 3 n (nI (val m p i))) 2 1 (nI (n + 1))) 5 n (m (23 + 4 * p) - m (22 + 4 * p))) 4 1 (nI (n + 1))) 6 (m (23 + 4 * p)) = some (pt (pt (pt (pt (pt (pt s 3 n (nI (val m p i))) 2 1 (nI (n + 1))) 5 n (m (23 + 4 * p) - m (22 + 4 * p))) 4 1 (nI (n + 1))) 7 n (m (23 + 4 * p))) 6 1 (nI (n + 1))) := p_add ⟨by rw [pt_nek (by decide), pt_nek (by decide), pt_nek (by decide), pt_nek (by decide)]; exact g4, Nat.le_of_lt hn5, by decide⟩ hn5
      have hT2 : RT (pt (pt s 3 n (nI (val m p i))) 2 1 (nI (n + 1))) t m := hT.fr (fun q h1 h2 => by have := ht.ge; rw [pt_nek (by omega), pt_nek (by omega)])
      refine ⟨pq (pt (pt (pt (pt (pt (pt s 3 n (nI (val m p i))) 2 1 (nI (n + 1))) 5 n (m (23 + 4 * p) - m (22 + 4 * p))) 4 1 (nI (n + 1))) 7 n (m (23 + 4 * p))) 6 1 (nI (n + 1))) 1 ((pt (pt (pt (pt (pt (pt s 3 n (nI (val m p i))) 2 1 (nI (n + 1))) 5 n (m (23 + 4 * p) - m (22 + 4 * p))) 4 1 (nI (n + 1))) 7 n (m (23 + 4 * p))) 6 1 (nI (n + 1))).2 1 * (m (23 + 4 * p)).toInt64), ?_, ?_, ?_, ?_⟩
      · rw [f_X2_look_57, cNp hT hW ht, bnd_some, if_neg (nI_ge hp (by omega)), if_neg (fun e => c ((nI_eq (by omega) (by omega)).mp e)), cOutOf hT hW ht hp, bnd_some, cVal hT hW ht (by omega) hi, bnd_some, a1, bnd_some, cChance hT2 hW ht hp, bnd_some, a2, bnd_some, a3, bnd_some, hx]
      · intro q hq
        show ((pt (pt (pt (pt (pt (pt s 3 n (nI (val m p i))) 2 1 (nI (n + 1))) 5 n (m (23 + 4 * p) - m (22 + 4 * p))) 4 1 (nI (n + 1))) 7 n (m (23 + 4 * p))) 6 1 (nI (n + 1))).1 q) = _
        rw [pt_nek (by omega), pt_nek (by omega), pt_nek (by omega), pt_nek (by omega), pt_nek (by omega), pt_nek (by omega)]
        exact r1 q hq
      · rw [hn]
        refine ⟨?_, ?_, ?_, ?_, fun j hj => ?_⟩
        · show ((pt (pt (pt (pt (pt (pt s 3 n (nI (val m p i))) 2 1 (nI (n + 1))) 5 n (m (23 + 4 * p) - m (22 + 4 * p))) 4 1 (nI (n + 1))) 7 n (m (23 + 4 * p))) 6 1 (nI (n + 1))).1 1 4) = _
          rw [pt_nek (by decide), pt_nek (by decide), pt_nek (by decide), pt_nek (by decide), pt_nek (by decide), pt_nek (by decide)]
          exact g1
        · show ((pt (pt (pt (pt (pt (pt s 3 n (nI (val m p i))) 2 1 (nI (n + 1))) 5 n (m (23 + 4 * p) - m (22 + 4 * p))) 4 1 (nI (n + 1))) 7 n (m (23 + 4 * p))) 6 1 (nI (n + 1))).1 2 1) = _
          rw [pt_nek (by decide), pt_nek (by decide), pt_nek (by decide), pt_nek (by decide), pt_at]
        · show ((pt (pt (pt (pt (pt (pt s 3 n (nI (val m p i))) 2 1 (nI (n + 1))) 5 n (m (23 + 4 * p) - m (22 + 4 * p))) 4 1 (nI (n + 1))) 7 n (m (23 + 4 * p))) 6 1 (nI (n + 1))).1 4 1) = _
          rw [pt_nek (by decide), pt_nek (by decide), pt_at]
        · show ((pt (pt (pt (pt (pt (pt s 3 n (nI (val m p i))) 2 1 (nI (n + 1))) 5 n (m (23 + 4 * p) - m (22 + 4 * p))) 4 1 (nI (n + 1))) 7 n (m (23 + 4 * p))) 6 1 (nI (n + 1))).1 6 1) = _
          rw [pt_at]
        · show ((pt (pt (pt (pt (pt (pt s 3 n (nI (val m p i))) 2 1 (nI (n + 1))) 5 n (m (23 + 4 * p) - m (22 + 4 * p))) 4 1 (nI (n + 1))) 7 n (m (23 + 4 * p))) 6 1 (nI (n + 1))).1 3 j) = _ ∧ ((pt (pt (pt (pt (pt (pt s 3 n (nI (val m p i))) 2 1 (nI (n + 1))) 5 n (m (23 + 4 * p) - m (22 + 4 * p))) 4 1 (nI (n + 1))) 7 n (m (23 + 4 * p))) 6 1 (nI (n + 1))).1 5 j) = _ ∧ ((pt (pt (pt (pt (pt (pt s 3 n (nI (val m p i))) 2 1 (nI (n + 1))) 5 n (m (23 + 4 * p) - m (22 + 4 * p))) 4 1 (nI (n + 1))) 7 n (m (23 + 4 * p))) 6 1 (nI (n + 1))).1 7 j) = _
          rw [pt_nek (show (3 : Nat) ≠ 6 by decide), pt_nek (show (3 : Nat) ≠ 7 by decide), pt_nek (show (3 : Nat) ≠ 4 by decide), pt_nek (show (3 : Nat) ≠ 5 by decide), pt_nek (show (3 : Nat) ≠ 2 by decide), pt_same, pt_nek (show (5 : Nat) ≠ 6 by decide), pt_nek (show (5 : Nat) ≠ 7 by decide), pt_nek (show (5 : Nat) ≠ 4 by decide), pt_same, pt_nek (show (5 : Nat) ≠ 2 by decide), pt_nek (show (5 : Nat) ≠ 3 by decide), pt_nek (show (7 : Nat) ≠ 6 by decide), pt_same, pt_nek (show (7 : Nat) ≠ 4 by decide), pt_nek (show (7 : Nat) ≠ 5 by decide), pt_nek (show (7 : Nat) ≠ 2 by decide), pt_nek (show (7 : Nat) ≠ 3 by decide)]
          by_cases ej : j = n
          · subst ej; rw [hsk, upd_same, upd_same, upd_same]; exact ⟨rfl, rfl, rfl⟩
          · rw [upd_ne ej, upd_ne ej, upd_ne ej]; exact g5 j (by omega)
      · rw [if_neg c]
        show s.2 1 * (m (23 + 4 * p)).toInt64 = _
        rw [r3]
  have hv : f_X8_valueOf S (t + 10) (nI (own m i)) (nI i) = some (nI (val m (own m i) i)) := cVal h hW ht ho.2 hi
  unfold f_X2_look
  rw [cOwnV h hW ht hi, bnd_some, hv, bnd_some, p_reset0 (n := 0) (by decide) (by omega), bnd_some, p_reset0 (n := 0) (by decide) (by omega), bnd_some, p_reset0 (n := 0) (by decide) (by omega), bnd_some]
  have h0 : PF S (pt (pt (pt (pq (pt S 1 4 (nI (val m (own m i) i))) 1 1) 2 1 0) 4 1 0) 6 1 0) ∧ MK (pt (pt (pt (pq (pt S 1 4 (nI (val m (own m i) i))) 1 1) 2 1 0) 4 1 0) 6 1 0) m (own m i) i (nb (own m i) 0) ∧ (pt (pt (pt (pq (pt S 1 4 (nI (val m (own m i) i))) 1 1) 2 1 0) 4 1 0) 6 1 0).2 1 = 1 := by
    refine ⟨fun q hq => ?_, ⟨?_, ?_, ?_, ?_, fun j hj => absurd hj (by unfold nb; rw [if_pos (Nat.zero_le _)]; exact Nat.not_lt_zero _)⟩, rfl⟩
    · rw [pt_nek (by omega), pt_nek (by omega), pt_nek (by omega)]
      show (pt S 1 4 (nI (val m (own m i) i))).1 q = _
      rw [pt_nek (by omega)]
    · rw [pt_nek (by decide), pt_nek (by decide), pt_nek (by decide)]
      show (pt S 1 4 (nI (val m (own m i) i))).1 1 4 = _
      rw [pt_at]
    · rw [pt_nek (by decide), pt_nek (by decide), pt_at]; unfold nb; rw [if_pos (Nat.zero_le _)]; rfl
    · rw [pt_nek (by decide), pt_at]; unfold nb; rw [if_pos (Nat.zero_le _)]; rfl
    · rw [pt_at]; unfold nb; rw [if_pos (Nat.zero_le _)]; rfl
  obtain ⟨s', f', e1, e2⟩ := loopR (fun f p s => f_X2_look_57 N f s t (nI i) (nI (own m i)) (nI p)) (fun p s a => PF S s ∧ MK s m (own m i) i (nb (own m i) p) ∧ s.2 1 = a) (fun p a => if p = own m i then a else a * (m (23 + 4 * p)).toInt64) (w m 0) hstep (w m 0) 0 N (pt (pt (pt (pq (pt S 1 4 (nI (val m (own m i) i))) 1 1) 2 1 0) 4 1 0) 6 1 0) 1 h0 (by omega) (by omega)
  refine ⟨s', ?_, e2.1, ?_, e2.2.2⟩
  · rw [show f_X2_look_57 N N (pt (pt (pt (pq (pt S 1 4 (nI (val m (own m i) i))) 1 1) 2 1 0) 4 1 0) 6 1 0) t (nI i) (nI (own m i)) 0 = _ from e1]
    show f_X2_look_57 N (f' + 1) s' t (nI i) (nI (own m i)) (nI (w m 0)) = _
    rw [f_X2_look_57, cNp (h.fr (fun q h1 h2 => e2.1 q (Or.inr (by have := ht.ge; omega)))) hW ht, bnd_some, if_pos (nI_le (Nat.le_refl _) (by omega))]
  · have : nb (own m i) (w m 0) = w m 0 - 1 := by unfold nb; rw [if_neg (by omega)]
    rw [← this]; exact e2.2.1
