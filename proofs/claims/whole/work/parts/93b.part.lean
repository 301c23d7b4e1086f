/-! taken, gain -/
theorem mPriced {S : St} {m : Nat → Int32} {v1 v2 v3 : Int32} (hM : S.1 173 = m) (hW : WF m) : f_X12_isPriced S v1 v2 v3 = some (if wi v1 (nI (w m 1) - 1) = 0 then 0 else if wi v2 9999 = 0 then 0 else if wi v3 1 = 0 then 0 else 1) := by
  unfold f_X12_isPriced
  rw [mIsT hM hW, bnd_some]
  split
  · rfl
  · rw [mIn, bnd_some]
    split
    · rfl
    · rw [mIn, bnd_some]
      split <;> rfl
theorem CC.gpr {S : St} {f g F H : St → Option (Int64 × St)} {v1 v2 v3 : Int32} (h : IV S) (G1 : ∀ s, f s = bnd (f_X11_isThing s v1) (fun a => if a = 0 then bnd2 (f_X11_fail s 1) (fun a s => some (a.toInt64, s)) else bnd (f_X11_within s v2 9999) (fun a => if a = 0 then bnd2 (f_X11_fail s 1) (fun a s => some (a.toInt64, s)) else bnd (f_X11_within s v3 1) (fun a => if a = 0 then bnd2 (f_X11_fail s 1) (fun a s => some (a.toInt64, s)) else F s)))) (G2 : ∀ s, g s = bnd (f_X12_isPriced s v1 v2 v3) (fun a => if a = 0 then bnd2 (f_X12_error s 1) (fun a s => some (a.toInt64, s)) else H s)) (hx : ∀ i x y, i < w (S.1 173) 1 → x ≤ 9999 → y ≤ 1 → v1 = nI i → v2 = nI x → v3 = nI y → CC S F H) : CC S f g := by
  have hT := h.1.1
  have hW := h.1.2.1
  have hi2 := hW.nt.2
  have bad : (if wi v1 (nI (w (S.1 173) 1) - 1) = 0 then (0 : Int32) else if wi v2 9999 = 0 then 0 else if wi v3 1 = 0 then 0 else 1) = 0 → f S = bnd2 (f_X11_fail S (nI 1)) (fun a s => some (a.toInt64, s)) → CC S f g := fun e e1 => by
    refine CC.err h (k := 1) (φ := fun a => a.toInt64) (by decide) e1 ?_
    rw [G2, mPriced (m := S.1 173) (E1_nek (by decide)) hW, bnd_some, e, if_pos rfl]; rfl
  rcases wi_p (v := v1) (n := w (S.1 173) 1) (by omega) with e1 | ⟨i, hi, q1, e1⟩
  · refine bad (by rw [if_pos e1]) ?_
    rw [G1, cIsT hT hW, bnd_some, e1, if_pos rfl]; rfl
  · rcases wi_n (v := v2) (n := 9999) (by decide) with e2 | ⟨x, hx', q2, e2⟩
    · rw [← k9999] at e2
      refine bad (by rw [if_neg (by rw [e1]; decide), if_pos e2]) ?_
      rw [G1, cIsT hT hW, bnd_some, e1, if_neg (by decide), cIn, bnd_some, e2, if_pos rfl]; rfl
    · rw [← k9999] at e2
      rcases wi_n (v := v3) (n := 1) (by decide) with e3 | ⟨y, hy, q3, e3⟩
      · rw [← k1] at e3
        refine bad (by rw [if_neg (by rw [e1]; decide), if_neg (by rw [e2]; decide), if_pos e3]) ?_
        rw [G1, cIsT hT hW, bnd_some, e1, if_neg (by decide), cIn, bnd_some, e2, if_neg (by decide), cIn, bnd_some, e3, if_pos rfl]; rfl
      · rw [← k1] at e3
        obtain ⟨r, S1, S2, a, b, c, d⟩ := hx i x y hi hx' hy q1 q2 q3
        refine ⟨r, S1, S2, ?_, b, ?_, d⟩
        · rw [G1, cIsT hT hW, bnd_some, e1, if_neg (by decide), cIn, bnd_some, e2, if_neg (by decide), cIn, bnd_some, e3, if_neg (by decide)]; exact a
        · have hv : (if wi v1 (nI (w (S.1 173) 1) - 1) = 0 then (0 : Int32) else if wi v2 9999 = 0 then 0 else if wi v3 1 = 0 then 0 else 1) = 1 := by rw [e1, e2, e3]; rfl
          rw [G2, mPriced (m := S.1 173) (b 173 (by decide)) hW, bnd_some, hv, if_neg (by decide)]; exact c
theorem fin2_some {v0 v2 : Int64} {v4 : Int32} {g : Nat} (h0 : 0 < g) (h : g < 2 ^ 63) : ∃ r, fin2 v0 v2 v4 g = some r := by
  have hn : ¬ lN g = 0 := fun e => by
    have := (pk_lEQ (a := g) (b := 0) h (by decide)).mp e
    omega
  unfold fin2
  by_cases c : v4 = 0
  · rw [if_pos c, if_neg hn]; exact ⟨_, rfl⟩
  · rw [if_neg c, if_neg hn]; exact ⟨_, rfl⟩
theorem whl_b {m : Nat → Int32} (hW : WF m) {o : Nat} : (whl m o).toInt.natAbs ≤ 531441 := by
  have hp := hW.np.2
  exact prodA (by omega) (fun p hp => (fac hW (by omega)).1)
theorem lft_b {m : Nat → Int32} (hW : WF m) {o i : Nat} {c : Int32} : (lft m o i c).toInt.natAbs ≤ 531441 := by
  have hp := hW.np.2
  exact prodA (by omega) (fun p hp => by split; exact (fac hW (by omega)).1; exact (fac hW (by omega)).2)
theorem K_taken {N : Nat} (hN : 100 < N) {S : St} (h : IV S) (v1 v2 v3 : Int32) : CC S (fun s => f_X11_taken N s v1 v2 v3) (fun s => f_X12_taken N s v1 v2 v3) := by
  have hW := h.1.2.1
  have hi2 := hW.nt.2
  have hp2 := hW.np.2
  refine CC.gpr h (fun _ => rfl) (fun _ => rfl) (fun i x y hi hx hy q1 q2 q3 => ?_)
  subst q1; subst q2; subst q3
  have ho := own_lt hW hi
  obtain ⟨S1, a1, b1, c1, d1⟩ := cLook hN h.1.1 hW (Or.inl rfl) hi
  have h1 := h.look b1
  have e1 : S1.1 173 = S.1 173 := b1 173 (Or.inr (by decide))
  obtain ⟨b, hb0, hb, eb⟩ := whl_n hW (own (S.1 173) i)
  have hbd : (whl (S.1 173) (own (S.1 173) i) - lft (S.1 173) (own (S.1 173) i) i (nI x)).toInt.natAbs ≤ 2 ^ 61 := by
    have := (subA (whl_b hW (o := own (S.1 173) i)) (lft_b hW (o := own (S.1 173) i) (i := i) (c := nI x)) (by decide)).2
    omega
  obtain ⟨r, hr⟩ := fin2_some (v0 := whl (S.1 173) (own (S.1 173) i) - lft (S.1 173) (own (S.1 173) i) i (nI x)) (v2 := lN b) (v4 := nI y) (g := Nat.gcd b (whl (S.1 173) (own (S.1 173) i) - lft (S.1 173) (own (S.1 173) i) i (nI x)).toInt.natAbs) (Nat.gcd_pos_of_pos_left _ hb0) (Nat.lt_of_le_of_lt (Nat.gcd_le_left _ hb0) (by omega))
  refine ⟨r, S1, S1, ?_, fun q hq => b1 q (Or.inr (by omega)), ?_, h1⟩
  · (try dsimp only)
    have := cLow hN (S := S1) (v4 := nI y) hbd hb0 (by omega)
    rw [← eb] at this
    rw [a1, bnd_some, cLeft hN ho.1 hp2 c1, bnd_some, d1, this, eb] at *
    rw [hr, bnd_some]
  · (try dsimp only)
    have := mLow hN (S := S1) (v4 := nI y) (b := b) hbd (by omega)
    rw [← eb] at this
    rw [mAll hN e1 hW hi, bnd_some, mNobody hN e1 hW hi, bnd_some, this, eb] at *
    rw [hr, bnd_some]
theorem K_gain {N : Nat} (hN : 100 < N) {S : St} (h : IV S) (v1 v2 v3 : Int32) : CC S (fun s => f_X11_gain N s v1 v2 v3) (fun s => f_X12_gain N s v1 v2 v3) := by
  have hW := h.1.2.1
  have hi2 := hW.nt.2
  have hp2 := hW.np.2
  have hf := fee_in hW
  refine CC.gpr h (fun _ => rfl) (fun _ => rfl) (fun i x y hi hx hy q1 q2 q3 => ?_)
  subst q1; subst q2; subst q3
  have ho := own_lt hW hi
  obtain ⟨S1, a1, b1, c1, d1⟩ := cLook hN h.1.1 hW (Or.inl rfl) hi
  have h1 := h.look b1
  have e1 : S1.1 173 = S.1 173 := b1 173 (Or.inr (by decide))
  have r1 : f_X5_at S1 35 0 = some (S.1 173 10) := by
    have := cRule h1.1.1 h1.1.2.1 (Or.inl rfl) (j := 0) (by decide)
    rw [e1] at this
    exact this
  obtain ⟨b, hb0, hb, eb⟩ := whl_n hW (own (S.1 173) i)
  have e100 : whl (S.1 173) (own (S.1 173) i) * 100 = lN (b * 100) := by rw [eb]; exact lN_mul b 100
  have e100' : 100 * whl (S.1 173) (own (S.1 173) i) = lN (b * 100) := by rw [Int64.mul_comm]; exact e100
  have hbd := gA_b hW (o := own (S.1 173) i) (i := i) (x := x) (f := w (S.1 173) 10) ho.2 (by omega) hx hf.2
  obtain ⟨r, hr⟩ := fin2_some (v0 := gA (S.1 173) (own (S.1 173) i) i (nI (w (S.1 173) 10)) (nI x)) (v2 := lN (b * 100)) (v4 := nI y) (g := Nat.gcd (b * 100) (gA (S.1 173) (own (S.1 173) i) i (nI (w (S.1 173) 10)) (nI x)).toInt.natAbs) (Nat.gcd_pos_of_pos_left _ (by omega)) (Nat.lt_of_le_of_lt (Nat.gcd_le_left _ (by omega)) (by omega))
  refine ⟨r, S1, S1, ?_, fun q hq => b1 q (Or.inr (by omega)), ?_, h1⟩
  · (try dsimp only)
    rw [a1, bnd_some, r1, bnd_some, hf.1, cGain hN ho.1 hp2 c1 d1, bnd_some, d1, e100, cLow hN hbd (by omega) (by omega), hr, bnd_some]
  · (try dsimp only)
    rw [e1, hf.1, mGain hN e1 hW hi hx hf.2, bnd_some, mAll hN e1 hW hi, bnd_some, e100', mLow hN hbd (by omega), hr, bnd_some]
/-! part: the best part -/
theorem held_n {m : Nat → Int32} (hW : WF m) : ∃ k, k ≤ 200000 ∧ heldM m = nI k := by
  have hi2 := hW.nt.2
  have hk2 := hW.nk.2
  have h1 : ∃ k, k ≤ 9999 * (0 + w m 1) ∧ heldA m = nI k := lp_inv (f := fun i a => a + nI (val m (own m i) i)) (fun j a => ∃ k, k ≤ 9999 * j ∧ a = nI k) (w m 1) 0 0 ⟨0, by omega, rfl⟩ (fun j b x1 x2 x3 => by
    obtain ⟨k, a1, rfl⟩ := x3
    have hv := (val_lt hW (p := own m j) (i := j) (own_lt hW (by omega)).2 (by omega)).1
    exact ⟨k + val m (own m j) j, by omega, nI_add _ _⟩)
  obtain ⟨k0', b1, b2⟩ := h1
  have h2 : ∃ k, k ≤ 9999 * 12 + 9999 * (0 + w m 2) ∧ heldM m = nI k := lp_inv (f := fun k a => a + (if hb m k < 0 then 0 else m (94 + 3 * k))) (fun j a => ∃ k, k ≤ 9999 * 12 + 9999 * j ∧ a = nI k) (w m 2) 0 (heldA m) ⟨k0', by omega, b2⟩ (fun j b x1 x2 x3 => by
    obtain ⟨k, a1, rfl⟩ := x3
    have hbn := hW.ty (l_bonus j (by omega)) (by decide)
    show ∃ k', k' ≤ _ ∧ nI k + (if hb m j < 0 then 0 else m (94 + 3 * j)) = nI k'
    split
    · exact ⟨k, by omega, by rw [k0, nI_add]; rfl⟩
    · rw [hbn.1, nI_add]
      exact ⟨_, by omega, rfl⟩)
  obtain ⟨k, c1, c2⟩ := h2
  exact ⟨k, by omega, c2⟩
