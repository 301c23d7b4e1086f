/-- the whole, as a number -/
theorem whl_n {m : Nat → Int32} (hW : WF m) (o : Nat) : ∃ n, 0 < n ∧ n ≤ 531441 ∧ whl m o = lN n := by
  have hp := hW.np.2
  have h9 : ∀ j, j ≤ 6 → 9 ^ j ≤ 531441 := by decide
  have := lp_inv (f := fun p (a : Int64) => if p = o then a else a * (m (23 + 4 * p)).toInt64) (fun j a => ∃ n, 0 < n ∧ n ≤ 9 ^ j ∧ a = lN n) (w m 0) 0 1 ⟨1, by decide, by decide, rfl⟩ (fun j b h1 h2 h3 => by
    obtain ⟨n, a1, a2, rfl⟩ := h3
    show ∃ n', 0 < n' ∧ n' ≤ 9 ^ (j + 1) ∧ (if j = o then lN n else lN n * (m (23 + 4 * j)).toInt64) = lN n'
    rw [Nat.pow_succ]
    split
    · exact ⟨n, a1, by omega, rfl⟩
    · have ho := hW.ty (l_outof j (by omega)) (by decide)
      have h0 := hW.2.1 j (by omega)
      rw [ho.1, nI_l (by omega), lN_mul]
      exact ⟨_, Nat.mul_pos a1 h0, Nat.mul_le_mul a2 (by omega), rfl⟩)
  obtain ⟨n, a1, a2, a3⟩ := this
  rw [Nat.zero_add] at a2
  exact ⟨n, a1, Nat.le_trans a2 (h9 _ (by omega)), a3⟩
