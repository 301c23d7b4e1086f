/-! PURE PART: the functions f_.. over St; nothing of the machine from here on -/
theorem bnd_some {α β : Type} {a : α} {f : α → Option β} : bnd (some a) f = f a := rfl
theorem bnd2_some {α β γ : Type} {a : α} {b : β} {f : α → β → Option γ} : bnd2 (some (a, b)) f = f a b := rfl
theorem upd_same {f : Nat → Int32} {k : Nat} {v : Int32} : upd f k v k = v := by simp [upd]
theorem upd_ne {f : Nat → Int32} {k j : Nat} {v : Int32} (h : j ≠ k) : upd f k v j = f j := by simp [upd, h]
theorem pt_same {S : St} {k j : Nat} {v : Int32} : (pt S k j v).1 k = upd (S.1 k) j v := by simp [pt]
theorem pt_nek {S : St} {k j q : Nat} {v : Int32} (h : q ≠ k) : (pt S k j v).1 q = S.1 q := by simp [pt, h]
theorem pt_at {S : St} {k j : Nat} {v : Int32} : (pt S k j v).1 k j = v := by rw [pt_same, upd_same]
theorem pt_nej {S : St} {k j i : Nat} {v : Int32} (h : i ≠ j) : (pt S k j v).1 k i = S.1 k i := by rw [pt_same, upd_ne h]
theorem inb_nI {k n : Nat} (h : k < n) (hn : n < 2 ^ 31) : inb (nI k) n = true := by
  unfold inb
  rw [nI_clamp (by omega)]
  have h1 : ¬ nI k < 0 := nI_pos (by omega)
  simp [h1]
  exact h
theorem nI_sub {a b : Nat} (h : b ≤ a) : nI a - nI b = nI (a - b) := pk_sub h
theorem k0 : (0 : Int32) = nI 0 := rfl
theorem k1 : (1 : Int32) = nI 1 := rfl
theorem k2 : (2 : Int32) = nI 2 := rfl
theorem k3 : (3 : Int32) = nI 3 := rfl
theorem k4 : (4 : Int32) = nI 4 := rfl
theorem k5 : (5 : Int32) = nI 5 := rfl
theorem k6 : (6 : Int32) = nI 6 := rfl
theorem k7 : (7 : Int32) = nI 7 := rfl
theorem k8 : (8 : Int32) = nI 8 := rfl
theorem k9 : (9 : Int32) = nI 9 := rfl
theorem k10 : (10 : Int32) = nI 10 := rfl
theorem k12 : (12 : Int32) = nI 12 := rfl
theorem k20 : (20 : Int32) = nI 20 := rfl
theorem k24 : (24 : Int32) = nI 24 := rfl
theorem k30 : (30 : Int32) = nI 30 := rfl
theorem k40 : (40 : Int32) = nI 40 := rfl
theorem k44 : (44 : Int32) = nI 44 := rfl
theorem k50 : (50 : Int32) = nI 50 := rfl
theorem k60 : (60 : Int32) = nI 60 := rfl
theorem k92 : (92 : Int32) = nI 92 := rfl
theorem k99 : (99 : Int32) = nI 99 := rfl
theorem k100 : (100 : Int32) = nI 100 := rfl
theorem k110 : (110 : Int32) = nI 110 := rfl
theorem k125 : (125 : Int32) = nI 125 := rfl
theorem k182 : (182 : Int32) = nI 182 := rfl
theorem k432 : (432 : Int32) = nI 432 := rfl
theorem k492 : (492 : Int32) = nI 492 := rfl
theorem k516 : (516 : Int32) = nI 516 := rfl
theorem k9999 : (9999 : Int32) = nI 9999 := rfl
theorem k999999 : (999999 : Int32) = nI 999999 := rfl
/-- a loop: count, first index, step, start -/
def lp {α : Type} (f : Nat → α → α) : Nat → Nat → α → α
  | 0, _, a => a
  | k + 1, i, a => lp f k (i + 1) (f i a)
theorem lp_inv {α : Type} {f : Nat → α → α} (P : Nat → α → Prop) : ∀ (k i : Nat) (a : α), P i a → (∀ j b, i ≤ j → j < i + k → P j b → P (j + 1) (f j b)) → P (i + k) (lp f k i a) := by
  intro k
  induction k with
  | zero => intro i a h _; exact h
  | succ k ih =>
    intro i a h hs
    have := ih (i + 1) (f i a) (hs i a (Nat.le_refl _) (by omega) h) (fun j b h1 h2 h3 => hs j b (by omega) (by omega) h3)
    rw [show i + 1 + k = i + (k + 1) by omega] at this
    exact this
theorem lp_congr {α : Type} {f g : Nat → α → α} : ∀ (k i : Nat) (a : α), (∀ j b, i ≤ j → j < i + k → f j b = g j b) → lp f k i a = lp g k i a := by
  intro k
  induction k with
  | zero => intro i a _; rfl
  | succ k ih =>
    intro i a h
    show lp f k (i + 1) (f i a) = lp g k (i + 1) (g i a)
    rw [h i a (Nat.le_refl _) (by omega)]
    exact ih (i + 1) _ (fun j b h1 h2 => h j b (by omega) (by omega))
/-! ROWS -/
/-- a row has n numbers -/
def RW (S : St) (r n : Nat) : Prop := S.1 r 1 = nI n ∧ n ≤ ln (r + 1) ∧ ln (r + 1) < 1000
theorem RW.lt {S : St} {r n : Nat} (h : RW S r n) : n < 2 ^ 31 := by have := h.2.1; have := h.2.2; omega
theorem p_size {S : St} {r n : Nat} (h : RW S r n) : f_X5_size S r = some (nI n) := by unfold f_X5_size; rw [h.1]
theorem p_at {S : St} {r n i : Nat} (h : RW S r n) (hi : i < n) : f_X5_at S r (nI i) = some (S.1 (r + 1) i) := by
  have h1 := h.2.1; have h2 := h.2.2
  unfold f_X5_at
  rw [if_neg (nI_pos (by omega)), h.1, if_neg (nI_ge hi (by omega)), if_neg (show ¬ Int32.ofNat (ln (r + 1)) ≤ nI i from nI_ge (by omega) (by omega)), if_pos (inb_nI (by omega) (by omega)), nI_clamp (by omega)]
theorem p_at_out {S : St} {r n i : Nat} (h : RW S r n) (hi : n ≤ i) (h31 : i < 2 ^ 31) : f_X5_at S r (nI i) = some 0 := by
  have h1 := h.2.1; have h2 := h.2.2
  unfold f_X5_at
  rw [if_neg (nI_pos (by omega)), h.1, if_pos (nI_le hi h31)]
theorem p_at_neg {S : St} {r : Nat} {i : Int32} (h : i < 0) : f_X5_at S r i = some 0 := by unfold f_X5_at; rw [if_pos h]
theorem p_set {S : St} {r n i : Nat} {v : Int32} (h : RW S r n) (hi : i < n) : f_X5_set S r (nI i) v = some (pt S (r + 1) i v) := by
  have h1 := h.2.1; have h2 := h.2.2
  simp only [f_X5_set]
  rw [if_neg (nI_pos (by omega)), h.1, if_neg (nI_ge hi (by omega)), if_neg (show ¬ Int32.ofNat (ln (r + 1)) ≤ nI i from nI_ge (by omega) (by omega)), if_pos (inb_nI (by omega) (by omega)), nI_clamp (by omega)]
theorem p_swap {S : St} {r n i : Nat} {v : Int32} (h : RW S r n) (hi : i < n) : f_X5_swap S r (nI i) v = some (S.1 (r + 1) i, pt S (r + 1) i v) := by
  unfold f_X5_swap
  rw [p_at h hi, bnd_some, p_set h hi, bnd_some]
theorem RW.pt_arr {S : St} {r n k j : Nat} {v : Int32} (h : RW S r n) (hk : k ≠ r) : RW (pt S k j v) r n := by
  refine ⟨?_, h.2⟩
  rw [pt_nek (Ne.symm hk)]; exact h.1
theorem p_add {S : St} {r n : Nat} {v : Int32} (h : RW S r n) (hn : n < ln (r + 1)) : f_X5_add S r v = some (pt (pt S (r + 1) n v) r 1 (nI (n + 1))) := by
  have h1 := h.2.1; have h2 := h.2.2
  simp only [f_X5_add]
  rw [h.1, if_neg (nI_pos (by omega)), if_neg (show ¬ Int32.ofNat (ln (r + 1)) ≤ nI n from nI_ge hn (by omega)), if_pos (inb_nI hn (by omega)), nI_clamp (by omega), pt_nek (by omega), h.1, nI_1]
theorem St_ext {S T : St} (h1 : ∀ q j, S.1 q j = T.1 q j) (h2 : S.2 = T.2) : S = T := Prod.ext (funext fun q => funext fun j => h1 q j) h2
theorem p_reset0 {S : St} {r n N : Nat} (h : ln (r + 1) < 1000) (hN : 0 < N) : f_X5_reset N S r 0 = some (pt S r 1 0) := by
  obtain ⟨N, rfl⟩ : ∃ k, N = k + 1 := ⟨N - 1, by omega⟩
  have h1 : ¬ Int32.ofNat (ln (r + 1)) < 0 := nI_pos (by omega)
  have e : (if Int32.ofNat (ln (r + 1)) < 0 then Int32.ofNat (ln (r + 1)) else (0 : Int32)) = 0 := by rw [if_neg h1]
  unfold f_X5_reset
  rw [e, if_neg (by decide), f_X5_reset_19, pt_at, if_pos (by decide)]
def rz (S : St) (r k : Nat) : St := lp (fun i s => pt s (r + 1) i 0) k 0 (pt S r 1 (nI k))
theorem p_reset_loop {N r n : Nat} : ∀ (k i m : Nat) (S : St), RW S r n → i + k = n → k < m → f_X5_reset_19 N m S r (nI i) = some (lp (fun i s => pt s (r + 1) i 0) k i S) := by
  intro k
  induction k with
  | zero =>
    intro i m S h h1 h2
    obtain ⟨m, rfl⟩ : ∃ k, m = k + 1 := ⟨m - 1, by omega⟩
    rw [f_X5_reset_19, h.1, if_pos (nI_le (by omega) (by have := h.lt; omega))]
    rfl
  | succ k ih =>
    intro i m S h h1 h2
    obtain ⟨m, rfl⟩ : ∃ k, m = k + 1 := ⟨m - 1, by omega⟩
    rw [f_X5_reset_19, h.1, if_neg (nI_ge (by omega) h.lt), p_set h (by omega), bnd_some, nI_1, ih (i + 1) m _ (h.pt_arr (by omega)) (by omega) (by omega)]
    rfl
theorem p_reset {S : St} {r k N : Nat} (h : ln (r + 1) < 1000) (hk : k ≤ ln (r + 1)) (hN : k < N) : f_X5_reset N S r (nI k) = some (rz S r k) := by
  have e1 : (if Int32.ofNat (ln (r + 1)) < nI k then Int32.ofNat (ln (r + 1)) else nI k) = nI k := by
    split
    next q => rw [show Int32.ofNat (ln (r + 1)) = nI (ln (r + 1)) from rfl] at q ⊢; exact absurd q (nI_nlt hk (by omega))
    next => rfl
  have e2 : (if (0 : Int32) < nI k then nI k else 0) = nI k := by
    split
    next => rfl
    next q =>
      rcases Nat.eq_zero_or_pos k with rfl | hp
      · rfl
      · exact absurd (nI_lt (a := 0) hp (by omega)) q
  unfold f_X5_reset
  rw [e1, e2]
  exact p_reset_loop k 0 N _ ⟨pt_at, hk, h⟩ (by omega) hN
theorem rz_size {S : St} {r k : Nat} : (rz S r k).1 r 1 = nI k := by
  have := lp_inv (f := fun i s => pt s (r + 1) i 0) (fun _ s => s.1 r 1 = nI k) k 0 (pt S r 1 (nI k)) pt_at (fun j b _ _ h => by rw [pt_nek (by omega)]; exact h)
  exact this
theorem rz_at {S : St} {r k i : Nat} (hi : i < k) : (rz S r k).1 (r + 1) i = 0 := by
  have := lp_inv (f := fun i s => pt s (r + 1) i 0) (fun j s => ∀ i, i < j → s.1 (r + 1) i = 0) k 0 (pt S r 1 (nI k)) (fun i h => absurd h (Nat.not_lt_zero _)) (fun j b _ _ h i hi => by
    by_cases e : i = j
    · subst e; exact pt_at
    · rw [pt_nej e]; exact h i (by omega))
  exact this i (by omega)
theorem rz_fr {S : St} {r k q : Nat} (h1 : q ≠ r) (h2 : q ≠ r + 1) : (rz S r k).1 q = S.1 q := by
  have := lp_inv (f := fun i s => pt s (r + 1) i 0) (fun _ s => s.1 q = S.1 q) k 0 (pt S r 1 (nI k)) (pt_nek h1) (fun j b _ _ h => by rw [pt_nek h2]; exact h)
  exact this
theorem rz_2 {S : St} {r k : Nat} : (rz S r k).2 = S.2 := by
  have := lp_inv (f := fun i s => pt s (r + 1) i 0) (fun _ s => s.2 = S.2) k 0 (pt S r 1 (nI k)) rfl (fun j b _ _ h => h)
  exact this
/-- a row becomes another's numbers -/
def cp (S : St) (r r2 n : Nat) : St := pa (pt S r 1 (nI n)) (r + 1) (fun i => if i < n then S.1 (r2 + 1) i else S.1 (r + 1) i)
theorem pa_same {S : St} {k : Nat} {f : Nat → Int32} : (pa S k f).1 k = f := by simp [pa]
theorem pa_nek {S : St} {k q : Nat} {f : Nat → Int32} (h : q ≠ k) : (pa S k f).1 q = S.1 q := by simp [pa, h]
theorem cpok_i {sp dp z : Int32} {n0 n1 : Nat} (h1 : ¬ sp < 0) (h2 : ¬ dp < 0) (h3 : ¬ z < 0) (h4 : sp.toNatClampNeg + z.toNatClampNeg ≤ n0) (h5 : dp.toNatClampNeg + z.toNatClampNeg ≤ n1) : cpok sp dp z n0 n1 = true := by
  unfold cpok
  simp only [Bool.and_eq_true, decide_eq_true_eq]
  exact ⟨h1, h2, h3, h4, h5⟩
theorem p_take {S : St} {r r2 i j n : Nat} (h : ln (r + 1) < 1000) (h2 : ln (r2 + 1) < 1000) (hi : i + n ≤ ln (r2 + 1)) (hj : j + n ≤ ln (r + 1)) : f_X5_take S r r2 (nI i) (nI j) (nI n) = some (pa S (r + 1) (fun k => if j ≤ k ∧ k < j + n then S.1 (r2 + 1) (i + (k - j)) else S.1 (r + 1) k)) := by
  unfold f_X5_take
  rcases Nat.eq_zero_or_pos n with rfl | hp
  · rw [if_pos (show nI 0 ≤ 0 by decide)]
    unfold f_X5_take_17 f_X5_take_18
    rw [if_pos rfl]
    refine congrArg some (St_ext (fun q k => ?_) rfl)
    by_cases e : q = r + 1
    · subst e; rw [pa_same, if_neg (by omega)]
    · rw [pa_nek e]
  · rw [if_neg (nI_nle hp (by omega)), if_neg (nI_pos (by omega)), if_neg (nI_pos (by omega))]
    unfold f_X5_take_18
    rw [if_neg (by decide), show Int32.ofNat (ln (r2 + 1)) = nI (ln (r2 + 1)) from rfl, show Int32.ofNat (ln (r + 1)) = nI (ln (r + 1)) from rfl, nI_sub (by omega), nI_sub (by omega), if_neg (nI_nlt (by omega) (by omega)), if_neg (nI_nlt (by omega) (by omega)),
      if_pos (cpok_i (nI_pos (by omega)) (nI_pos (by omega)) (nI_pos (by omega)) (by rw [nI_clamp (by omega), nI_clamp (by omega)]; exact hi) (by rw [nI_clamp (by omega), nI_clamp (by omega)]; exact hj)), nI_clamp (by omega), nI_clamp (by omega), nI_clamp (by omega)]
    rfl
theorem p_copy {S : St} {r r2 n : Nat} (h2 : RW S r2 n) (hl : ln (r + 1) = ln (r2 + 1)) (hr : r + 1 ≠ r2 + 1 → r2 + 1 ≠ r) (hne : r ≠ r2 + 1) : f_X5_copy S r r2 = some (cp S r r2 n) := by
  have h3 := h2.2.1; have h4 := h2.2.2
  have e1 : (if Int32.ofNat (ln (r + 1)) < S.1 r2 1 then Int32.ofNat (ln (r + 1)) else S.1 r2 1) = nI n := by
    rw [h2.1, show Int32.ofNat (ln (r + 1)) = nI (ln (r + 1)) from rfl, if_neg (nI_nlt (by omega) (by omega))]
  unfold f_X5_copy
  rw [e1, pt_at, k0, p_take (by omega) (by omega) (by omega) (by omega), bnd_some]
  refine congrArg some (St_ext (fun q k => ?_) rfl)
  unfold cp
  by_cases e : q = r + 1
  · subst e
    rw [pa_same, pa_same]
    by_cases hk : k < n
    · rw [if_pos ⟨Nat.zero_le _, by omega⟩, if_pos hk, pt_nek (Ne.symm hne), Nat.zero_add, Nat.sub_zero]
    · rw [if_neg (fun g => hk (by omega)), if_neg hk, pt_nek (by omega)]
  · rw [pa_nek e, pa_nek e]
theorem cp_size {S : St} {r r2 n : Nat} : (cp S r r2 n).1 r 1 = nI n := by unfold cp; rw [pa_nek (by omega), pt_at]
theorem cp_arr {S : St} {r r2 n i : Nat} (hi : i < n) : (cp S r r2 n).1 (r + 1) i = S.1 (r2 + 1) i := by unfold cp; rw [pa_same, if_pos hi]
theorem cp_fr {S : St} {r r2 n q : Nat} (h1 : q ≠ r) (h2 : q ≠ r + 1) : (cp S r r2 n).1 q = S.1 q := by unfold cp; rw [pa_nek h2, pt_nek h1]
theorem p_last {S : St} {r n : Nat} (h : RW S r (n + 1)) : f_X5_last S r = some (S.1 (r + 1) n) := by
  unfold f_X5_last
  rw [h.1, k1, nI_sub (by omega), Nat.add_sub_cancel, p_at h (by omega), bnd_some]
theorem p_last0 {S : St} {r : Nat} (h : RW S r 0) : f_X5_last S r = some 0 := by
  unfold f_X5_last
  rw [h.1, p_at_neg (by decide), bnd_some]
theorem p_pop {S : St} {r n : Nat} (h : RW S r (n + 1)) : f_X5_pop S r = some (S.1 (r + 1) n, pt S r 1 (nI n)) := by
  have h3 := h.2.1; have h4 := h.2.2
  unfold f_X5_pop
  rw [h.1, k1, nI_sub (by omega), Nat.add_sub_cancel, if_neg (nI_pos (by omega)), if_pos (show nI n < Int32.ofNat (ln (r + 1)) from nI_lt (by omega) (by omega)), if_pos (inb_nI (by omega) (by omega)), nI_clamp (by omega), pt_nek (by omega)]
theorem p_sum_loop {N r n : Nat} {S : St} (h : RW S r n) : ∀ (k i m : Nat) (a : Int32), i + k = n → k < m → f_X5_sum_4 N S m r a (nI i) = some (lp (fun i a => a + S.1 (r + 1) i) k i a) := by
  intro k
  induction k with
  | zero =>
    intro i m a h1 h2
    obtain ⟨m, rfl⟩ : ∃ k, m = k + 1 := ⟨m - 1, by omega⟩
    rw [f_X5_sum_4, h.1, if_pos (nI_le (by omega) (by have := h.lt; omega))]
    rfl
  | succ k ih =>
    intro i m a h1 h2
    obtain ⟨m, rfl⟩ : ∃ k, m = k + 1 := ⟨m - 1, by omega⟩
    rw [f_X5_sum_4, h.1, if_neg (nI_ge (by omega) h.lt), p_at h (by omega), bnd_some, nI_1, ih (i + 1) m _ (by omega) (by omega)]
    rfl
theorem p_sum {N r n : Nat} {S : St} (h : RW S r n) (hN : n < N) : f_X5_sum N S r = some (lp (fun i a => a + S.1 (r + 1) i) n 0 0) := p_sum_loop h n 0 N 0 (by omega) hN
