/-- fuel for the loops of the methods -/
def NN : Nat := 100000000
theorem lawful {L : Nat} {xs : Nat → Int32} (hL : L ≤ 3072) : f_L_law_18 NN L xs 1000 S0 0 = some 1 := sorry
