theorem abs_l {v : Int64} (h : v.toInt.natAbs ≤ 2 ^ 61) : (0 ≤ v.toInt → v = lN v.toInt.natAbs) ∧ (v.toInt ≤ 0 → -v = lN v.toInt.natAbs) := by
  constructor
  · intro c
    apply Int64.toInt_inj.mp
    rw [pk_lT (by omega)]; omega
  · intro c
    apply Int64.toInt_inj.mp
    rw [pk_lT (by omega), Int64.toInt_neg, natAbs_b (B := 2 ^ 61) (by omega) (by decide)]; omega
theorem cLow {N : Nat} (hN : 100 < N) {S : St} {v0 : Int64} {v4 : Int32} {b : Nat} (h : v0.toInt.natAbs ≤ 2 ^ 61) (hb0 : 0 < b) (hb : b < 2 ^ 27) : f_X11_lowestTerm N S v0 (lN b) v4 = fin2 v0 (lN b) v4 (Nat.gcd b v0.toInt.natAbs) := by
  have e : (if 0 < v0 then v0 else -v0) = lN v0.toInt.natAbs := by
    have z : (0 : Int64).toInt = 0 := by decide
    by_cases c : 0 < v0
    · rw [if_pos c]; rw [Int64.lt_iff_toInt_lt] at c; exact (abs_l h).1 (by omega)
    · rw [if_neg c]; rw [Int64.lt_iff_toInt_lt] at c; exact (abs_l h).2 (by omega)
  unfold f_X11_lowestTerm
  rw [e]
  exact cEuc 27 _ b N 0 (by omega) (by omega) hb0 hb (by omega) (by omega)
theorem mLow {N : Nat} (hN : 100 < N) {S : St} {v0 : Int64} {v4 : Int32} {b : Nat} (h : v0.toInt.natAbs ≤ 2 ^ 61) (hb : b < 2 ^ 27) : f_X12_lowest N S v0 (lN b) v4 = fin2 v0 (lN b) v4 (Nat.gcd b v0.toInt.natAbs) := by
  have z : (0 : Int64).toInt = 0 := by decide
  unfold f_X12_lowest f_X12_lowest_12
  by_cases c : 0 ≤ lg_cmp v0 0
  · rw [if_pos c]
    rw [lg_cmp_ge, Int64.le_iff_toInt_le] at c
    have := (abs_l h).1 (by omega)
    have g := mEuc (N := N) (S := S) (v0 := v0) (v2 := lN b) (v4 := v4) 27 v0.toInt.natAbs b N (by omega) (by omega) hb (by omega)
    rw [← this] at g
    exact g
  · rw [if_neg c]
    rw [lg_cmp_ge, Int64.le_iff_toInt_le] at c
    rw [(abs_l h).2 (by omega)]
    exact mEuc 27 _ b N (by omega) (by omega) hb (by omega)
