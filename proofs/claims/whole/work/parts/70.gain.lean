/-! WHAT A PRICE BRINGS -/
theorem cLeft {N : Nat} (hN : 100 < N) {s : St} {m : Nat → Int32} {o i : Nat} (ho : o < w m 0) (hp : w m 0 < 7) (hK : MK s m o i (w m 0 - 1)) (c : Int32) : f_X2_leftAt N s c = some (lft m o i c) := by
  have r2 : RW s 2 (w m 0 - 1) := ⟨hK.2.1, by have : ln 3 = 6 := rfl; show w m 0 - 1 ≤ ln 3; omega, by decide⟩
  have r4 : RW s 4 (w m 0 - 1) := ⟨hK.2.2.1, by have : ln 5 = 6 := rfl; show w m 0 - 1 ≤ ln 5; omega, by decide⟩
  have r6 : RW s 6 (w m 0 - 1) := ⟨hK.2.2.2.1, by have : ln 7 = 6 := rfl; show w m 0 - 1 ≤ ln 7; omega, by decide⟩
  unfold lft
  rw [lp_skip ho]
  refine loopI (fun f j (a : Int64) => f_X2_leftAt_5 N s f c a (nI j)) (fun j a => a * (if nI (val m (sk o j) i) ≤ c then (m (23 + 4 * sk o j)).toInt64 else (m (23 + 4 * sk o j) - m (22 + 4 * sk o j)).toInt64)) some (w m 0 - 1) (fun f a => ?_) (fun f j a hj => ?_) (w m 0 - 1) 0 N 1 (by omega) (by omega)
  · show f_X2_leftAt_5 N s (f + 1) c a (nI (w m 0 - 1)) = _
    rw [f_X2_leftAt_5, p_size r2, bnd_some, if_pos (nI_le (Nat.le_refl _) (by omega))]
  · show f_X2_leftAt_5 N s (f + 1) c a (nI j) = f_X2_leftAt_5 N s f c _ (nI (j + 1))
    obtain ⟨g1, g2, g3⟩ := hK.2.2.2.2 j hj
    rw [f_X2_leftAt_5, p_size r2, bnd_some, if_neg (nI_ge hj (by omega)), p_at r2 hj, bnd_some, g1, p_at r4 hj, p_at r6 hj]
    by_cases e : nI (val m (sk o j) i) ≤ c
    · rw [if_pos e, if_pos e, bnd_some, g3]; unfold f_X2_leftAt_54; rw [nI_1]
    · rw [if_neg e, if_neg e, bnd_some, g2]; unfold f_X2_leftAt_54; rw [nI_1]
theorem mAll {N : Nat} (hN : 100 < N) {S : St} {m : Nat → Int32} (hM : S.1 173 = m) (hW : WF m) {i : Nat} (hi : i < w m 1) : f_X12_allBelow N S (nI i) = some (whl m (own m i)) := by
  have hp6 := hW.np.2
  have ho := own_lt hW hi
  have hi2 := hW.nt.2
  have hz : S.1 173 0 = nI (w m 0) := by rw [hM]; exact hW.np.1
  unfold whl
  refine loopI (fun f p (a : Int64) => f_X12_allBelow_5 N S f (nI i) a (nI p)) (fun p a => if p = own m i then a else a * (m (23 + 4 * p)).toInt64) some (w m 0) (fun f a => ?_) (fun f p a hp => ?_) (w m 0) 0 N 1 (by omega) (by omega)
  · show f_X12_allBelow_5 N S (f + 1) (nI i) a (nI (w m 0)) = _
    rw [f_X12_allBelow_5, hz, if_pos (nI_le (Nat.le_refl _) (by omega))]
  · show f_X12_allBelow_5 N S (f + 1) (nI i) a (nI p) = f_X12_allBelow_5 N S f (nI i) _ (nI (p + 1))
    rw [f_X12_allBelow_5, hz, if_neg (nI_ge hp (by omega)), mOwnV hM hW (by omega), bnd_some]
    by_cases c : p = own m i
    · rw [if_pos (by rw [c]), if_pos c]; unfold f_X12_allBelow_39; rw [nI_1, Int64.mul_one]
    · rw [if_neg (fun e => c ((nI_eq (by omega) (by omega)).mp e)), if_neg c, mOutOf hM (by omega), bnd_some]; unfold f_X12_allBelow_39; rw [nI_1]
theorem mNobody {N : Nat} (hN : 100 < N) {S : St} {m : Nat → Int32} (hM : S.1 173 = m) (hW : WF m) {i : Nat} (hi : i < w m 1) (c : Int32) : f_X12_nobody N S (nI i) c = some (lft m (own m i) i c) := by
  have hp6 := hW.np.2
  have ho := own_lt hW hi
  have hi2 := hW.nt.2
  have hz : S.1 173 0 = nI (w m 0) := by rw [hM]; exact hW.np.1
  unfold lft
  refine loopI (fun f p (a : Int64) => f_X12_nobody_5 N S f (nI i) c a (nI p)) (fun p a => if p = own m i then a else a * (if nI (val m p i) ≤ c then (m (23 + 4 * p)).toInt64 else (m (23 + 4 * p) - m (22 + 4 * p)).toInt64)) some (w m 0) (fun f a => ?_) (fun f p a hp => ?_) (w m 0) 0 N 1 (by omega) (by omega)
  · show f_X12_nobody_5 N S (f + 1) (nI i) c a (nI (w m 0)) = _
    rw [f_X12_nobody_5, hz, if_pos (nI_le (Nat.le_refl _) (by omega))]
  · show f_X12_nobody_5 N S (f + 1) (nI i) c a (nI p) = f_X12_nobody_5 N S f (nI i) c _ (nI (p + 1))
    rw [f_X12_nobody_5, hz, if_neg (nI_ge hp (by omega)), mVal hM hW (by omega) (by omega), bnd_some]
    have key : ∀ s0 : Int32, f_X12_nobody_32 N S (f_X12_nobody_5 N S f) (nI i) c a (nI p) s0 = f_X12_nobody_5 N S f (nI i) c (if p = own m i then a else a * (if s0 = 0 then (m (23 + 4 * p)).toInt64 else (m (23 + 4 * p) - m (22 + 4 * p)).toInt64)) (nI (p + 1)) := fun s0 => by
      unfold f_X12_nobody_32
      rw [mOwnV hM hW (by omega), bnd_some]
      by_cases e : p = own m i
      · rw [if_pos (by rw [e]), if_pos e]; unfold f_X12_nobody_81; rw [nI_1, Int64.mul_one]
      · rw [if_neg (fun g => e ((nI_eq (by omega) (by omega)).mp g)), if_neg e, mOutOf hM (by omega), bnd_some, mChance hM (by omega), bnd_some, bnd_some]
        by_cases e0 : s0 = 0
        · rw [if_pos e0, if_pos e0]; unfold f_X12_nobody_81; rw [nI_1]
        · rw [if_neg e0, if_neg e0]; unfold f_X12_nobody_81; rw [nI_1]
    by_cases e : nI (val m p i) ≤ c
    · rw [if_pos e, if_pos e, key, if_pos rfl]
    · rw [if_neg e, if_neg e, key, if_neg (show ¬ (1 : Int32) = 0 by decide)]
def gA (m : Nat → Int32) (o i : Nat) (fee c : Int32) : Int64 := 100 * ((whl m o - lft m o i c) * c.toInt64 + lft m o i c * (nI (val m o i)).toInt64) - whl m o * fee.toInt64 * c.toInt64
theorem cGain {N : Nat} (hN : 100 < N) {s : St} {m : Nat → Int32} {o i : Nat} (ho : o < w m 0) (hp : w m 0 < 7) (hK : MK s m o i (w m 0 - 1)) (hw : s.2 1 = whl m o) (fee c : Int32) : f_X2_gainAt N s c fee = some (gA m o i fee c) := by
  unfold f_X2_gainAt gA
  rw [cLeft hN ho hp hK, bnd_some, hw, hK.1]
theorem mul_l {f x : Nat} (h : f * x < 2 ^ 31) (hf : f < 2 ^ 31) (hx : x < 2 ^ 31) : (nI f * nI x).toInt64 = (nI f).toInt64 * (nI x).toInt64 := by
  rw [pk_mul, nI_l h, nI_l hf, nI_l hx]
  exact Int64.ofNat_mul f x
theorem mGain {N : Nat} (hN : 100 < N) {S : St} {m : Nat → Int32} (hM : S.1 173 = m) (hW : WF m) {i x f : Nat} (hi : i < w m 1) (hx : x ≤ 9999) (hf : f < 100) : f_X12_gainOf N S (nI i) (nI x) (nI f) = some (gA m (own m i) i (nI f) (nI x)) := by
  have ho := own_lt hW hi
  have hi2 := hW.nt.2
  unfold f_X12_gainOf gA
  rw [mAll hN hM hW hi, bnd_some, mNobody hN hM hW hi, bnd_some, mOwnV hM hW (by omega), bnd_some, mVal hM hW ho.2 (by omega), bnd_some, mul_l (by have := Nat.mul_le_mul (show f ≤ 99 by omega) hx; omega) (by omega) (by omega)]
  rw [Int64.mul_comm ((nI f).toInt64 * (nI x).toInt64), Int64.mul_assoc]
/-! how large they get -/
theorem natAbs_b {a : Int} {B : Nat} (h : a.natAbs ≤ B) (hB : B < 2 ^ 62) : a.bmod (2 ^ 64) = a := by
  rw [Int.bmod_eq_of_le] <;> omega
theorem mulA {x y : Int64} {A B : Nat} (hx : x.toInt.natAbs ≤ A) (hy : y.toInt.natAbs ≤ B) (h : A * B < 2 ^ 62) : (x * y).toInt = x.toInt * y.toInt ∧ (x * y).toInt.natAbs ≤ A * B := by
  have e : (x.toInt * y.toInt).natAbs ≤ A * B := by rw [Int.natAbs_mul]; exact Nat.mul_le_mul hx hy
  have : (x * y).toInt = x.toInt * y.toInt := by rw [Int64.toInt_mul]; exact natAbs_b e h
  exact ⟨this, by rw [this]; exact e⟩
theorem addA {x y : Int64} {A B : Nat} (hx : x.toInt.natAbs ≤ A) (hy : y.toInt.natAbs ≤ B) (h : A + B < 2 ^ 62) : (x + y).toInt = x.toInt + y.toInt ∧ (x + y).toInt.natAbs ≤ A + B := by
  have e : (x.toInt + y.toInt).natAbs ≤ A + B := by omega
  have : (x + y).toInt = x.toInt + y.toInt := by rw [Int64.toInt_add]; exact natAbs_b e h
  exact ⟨this, by rw [this]; exact e⟩
theorem subA {x y : Int64} {A B : Nat} (hx : x.toInt.natAbs ≤ A) (hy : y.toInt.natAbs ≤ B) (h : A + B < 2 ^ 62) : (x - y).toInt = x.toInt - y.toInt ∧ (x - y).toInt.natAbs ≤ A + B := by
  have e : (x.toInt - y.toInt).natAbs ≤ A + B := by omega
  have : (x - y).toInt = x.toInt - y.toInt := by rw [Int64.toInt_sub]; exact natAbs_b e h
  exact ⟨this, by rw [this]; exact e⟩
theorem nI_abs {n B : Nat} (h : n ≤ B) (hB : B < 2 ^ 31) : (nI n).toInt64.toInt.natAbs ≤ B := by
  rw [Jvm.Kit.i64_of_i32, nI_toInt (by omega)]; omega
theorem prodA {n : Nat} {g : Nat → Int64} {o : Nat} (hn : n ≤ 6) (hg : ∀ p, p < n → (g p).toInt.natAbs ≤ 9) : (lp (fun p a => if p = o then a else a * g p) n 0 (1 : Int64)).toInt.natAbs ≤ 531441 := by
  have h9 : ∀ j, j ≤ 6 → 9 ^ j ≤ 531441 := by decide
  have := lp_inv (f := fun p (a : Int64) => if p = o then a else a * g p) (fun j a => a.toInt.natAbs ≤ 9 ^ j) n 0 1 (by decide) (fun j b h1 h2 h3 => by
    show (if j = o then b else b * g j).toInt.natAbs ≤ 9 ^ (j + 1)
    have hj := h9 j (by omega)
    rw [Nat.pow_succ]
    split
    · omega
    · exact (mulA h3 (hg j (by omega)) (by omega)).2)
  rw [Nat.zero_add] at this
  exact Nat.le_trans this (h9 n hn)
theorem fac {m : Nat → Int32} (hW : WF m) {p : Nat} (hp : p < 6) : (m (23 + 4 * p)).toInt64.toInt.natAbs ≤ 9 ∧ (m (23 + 4 * p) - m (22 + 4 * p)).toInt64.toInt.natAbs ≤ 9 := by
  have h1 := hW.ty (l_outof p hp) (by decide)
  have h2 := hW.ty (l_chance p hp) (by decide)
  rw [h1.1, h2.1]
  refine ⟨nI_abs (by omega) (by decide), ?_⟩
  rw [Jvm.Kit.i64_of_i32, pk_sub_toInt (by omega) (by omega)]; omega
theorem gA_b {m : Nat → Int32} (hW : WF m) {o i x f : Nat} (ho : o < 6) (hi : i < 12) (hx : x ≤ 9999) (hf : f < 100) : (gA m o i (nI f) (nI x)).toInt.natAbs ≤ 2 ^ 61 := by
  have hp := hW.np.2
  have b1 : (whl m o).toInt.natAbs ≤ 531441 := prodA (by omega) (fun p hp => (fac hW (by omega)).1)
  have b2 : (lft m o i (nI x)).toInt.natAbs ≤ 531441 := prodA (by omega) (fun p hp => by split; exact (fac hW (by omega)).1; exact (fac hW (by omega)).2)
  have b3 : (nI x).toInt64.toInt.natAbs ≤ 9999 := nI_abs hx (by decide)
  have b4 : (nI (val m o i)).toInt64.toInt.natAbs ≤ 9999 := nI_abs (val_lt hW ho hi).1 (by decide)
  have b5 : (nI f).toInt64.toInt.natAbs ≤ 99 := nI_abs (by omega) (by decide)
  have c1 := (subA b1 b2 (by decide)).2
  have c2 := (mulA c1 b3 (by decide)).2
  have c3 := (mulA b2 b4 (by decide)).2
  have c4 := (addA c2 c3 (by decide)).2
  have c5 := (mulA (x := 100) (A := 100) (by decide) c4 (by decide)).2
  have c6 := (mulA (mulA b1 b5 (by decide)).2 b3 (by decide)).2
  have c7 := (subA c5 c6 (by decide)).2
  unfold gA
  omega
