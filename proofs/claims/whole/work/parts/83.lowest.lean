/-! LOWEST TERMS -/
def fin2 (v0 v2 : Int64) (v4 : Int32) (g : Nat) : Option Int64 := if v4 = 0 then (if lN g = 0 then none else some (v0 / lN g)) else (if lN g = 0 then none else some (v2 / lN g))
theorem mod2 {b r : Nat} (h0 : 0 < r) (h : r < b) : 2 * (b % r) < b := by
  have h1 := Nat.mod_lt b h0
  by_cases c : 2 * r ≤ b
  · omega
  · have : b % r = b - r := by rw [Nat.mod_eq_sub_mod (by omega), Nat.mod_eq_of_lt (by omega)]
    omega
theorem mEstop {N : Nat} {S : St} {v0 v2 : Int64} {v4 : Int32} (a f : Nat) : f_X12_lowest_17 N S (f + 1) v0 v2 v4 (lN a) (lN 0) = fin2 v0 v2 v4 a := by
  rw [f_X12_lowest_17, if_pos (show lg_cmp (lN 0) 0 = 0 from (lg_cmp_eq (lN 0) 0).mpr rfl)]
  rfl
theorem mEstep {N : Nat} {S : St} {v0 v2 : Int64} {v4 : Int32} {a b f : Nat} (ha : a < 2 ^ 62) (h0 : 0 < b) (hb : b < 2 ^ 62) : f_X12_lowest_17 N S (f + 1) v0 v2 v4 (lN a) (lN b) = f_X12_lowest_17 N S f v0 v2 v4 (lN b) (lN (a % b)) := by
  have hn : ¬ lN b = 0 := fun e => by
    have := (pk_lEQ (a := b) (b := 0) (by omega) (by decide)).mp e
    omega
  rw [f_X12_lowest_17, if_neg (fun e => hn ((lg_cmp_eq _ _).mp e)), if_neg hn, pk_lRem (by omega) h0 (by omega)]
theorem mEuc {N : Nat} {S : St} {v0 v2 : Int64} {v4 : Int32} : ∀ (j a b f : Nat), a < 2 ^ 62 → b < 2 ^ 62 → b < 2 ^ j → 2 * j + 1 < f → f_X12_lowest_17 N S f v0 v2 v4 (lN a) (lN b) = fin2 v0 v2 v4 (Nat.gcd b a) := by
  intro j
  induction j with
  | zero =>
    intro a b f ha hb h1 h2
    obtain ⟨f, rfl⟩ := fuel h2
    have : b = 0 := by simpa using h1
    subst this
    rw [mEstop, Nat.gcd_zero_left]
  | succ j ih =>
    intro a b f ha hb h1 h2
    obtain ⟨f, rfl⟩ := fuel h2
    obtain ⟨f, rfl⟩ : ∃ g, f = g + 1 := ⟨f - 1, by omega⟩
    rcases Nat.eq_zero_or_pos b with rfl | h0
    · rw [mEstop, Nat.gcd_zero_left]
    · rw [mEstep ha h0 hb, Nat.gcd_rec]
      have hr := Nat.mod_lt a h0
      rcases Nat.eq_zero_or_pos (a % b) with e | h3
      · rw [e, mEstop, Nat.gcd_zero_left]
      · rw [mEstep hb h3 (by omega), Nat.gcd_rec]
        have hm := mod2 h3 hr
        rw [Nat.pow_succ] at h1
        exact ih (a % b) (b % (a % b)) f (by omega) (by omega) (by omega) (by omega)
theorem cEstop {N : Nat} {S : St} {v0 v2 : Int64} {v4 : Int32} {a f c : Nat} (h0 : 0 < a) (ha : a < 2 ^ 62) (hc : c < 2 ^ 31) : f_X11_lowestTerm_12 N S (f + 1) v0 v2 v4 (lN a) (lN 0) (nI c) = fin2 v0 v2 v4 a := by
  have hn : ¬ lN a = 0 := fun e => by
    have := (pk_lEQ (a := a) (b := 0) (by omega) (by decide)).mp e
    omega
  have h47 : f_X11_lowestTerm_47 N S v0 v2 v4 (lN a) = fin2 v0 v2 v4 a := by
    unfold f_X11_lowestTerm_47 f_X11_lowestTerm_60 fin2
    rw [if_neg (fun e => hn ((lg_cmp_eq _ _).mp e))]
  rw [f_X11_lowestTerm_12, h47]
  split
  · rfl
  · rw [if_pos (show lg_cmp (lN 0) 0 = 0 from (lg_cmp_eq (lN 0) 0).mpr rfl)]
theorem cEstep {N : Nat} {S : St} {v0 v2 : Int64} {v4 : Int32} {a b f c : Nat} (ha : a < 2 ^ 62) (h0 : 0 < b) (hb : b < 2 ^ 62) (hc : c < 100) : f_X11_lowestTerm_12 N S (f + 1) v0 v2 v4 (lN a) (lN b) (nI c) = f_X11_lowestTerm_12 N S f v0 v2 v4 (lN b) (lN (a % b)) (nI (c + 1)) := by
  have hn : ¬ lN b = 0 := fun e => by
    have := (pk_lEQ (a := b) (b := 0) (by omega) (by decide)).mp e
    omega
  rw [f_X11_lowestTerm_12, k100, if_neg (nI_ge hc (by decide)), if_neg (fun e => hn ((lg_cmp_eq _ _).mp e)), if_neg hn, pk_lRem (by omega) h0 (by omega), nI_1]
theorem cEuc {N : Nat} {S : St} {v0 v2 : Int64} {v4 : Int32} : ∀ (j a b f c : Nat), a < 2 ^ 62 → b < 2 ^ 62 → 0 < b → b < 2 ^ j → 2 * j + 1 < f → c + 2 * j ≤ 99 → f_X11_lowestTerm_12 N S f v0 v2 v4 (lN a) (lN b) (nI c) = fin2 v0 v2 v4 (Nat.gcd b a) := by
  intro j
  induction j with
  | zero =>
    intro a b f c ha hb h0 h1 h2 h3
    have : b = 0 := by simpa using h1
    omega
  | succ j ih =>
    intro a b f c ha hb h0 h1 h2 h3
    obtain ⟨f, rfl⟩ := fuel h2
    obtain ⟨f, rfl⟩ : ∃ g, f = g + 1 := ⟨f - 1, by omega⟩
    obtain ⟨f, rfl⟩ : ∃ g, f = g + 1 := ⟨f - 1, by omega⟩
    rw [cEstep ha h0 hb (by omega), Nat.gcd_rec]
    have hr := Nat.mod_lt a h0
    rcases Nat.eq_zero_or_pos (a % b) with e | h4
    · rw [e, cEstop h0 hb (by omega), Nat.gcd_zero_left]
    · rw [cEstep hb h4 (by omega) (by omega), Nat.gcd_rec]
      have hm := mod2 h4 hr
      rw [Nat.pow_succ] at h1
      rcases Nat.eq_zero_or_pos (b % (a % b)) with e | h5
      · rw [e, cEstop h4 (by omega) (by omega), Nat.gcd_zero_left]
      · exact ih (a % b) (b % (a % b)) (f + 1) (c + 1 + 1) (by omega) (by omega) h5 (by omega) (by omega) (by omega)
