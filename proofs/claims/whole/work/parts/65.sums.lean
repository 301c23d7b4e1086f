/-! SUMS OVER A TOWN -/
def oSum (m : Nat → Int32) (p : Nat) (c : Nat → Int32) : Int32 := lp (fun i a => a + (if own m i = p then c i else 0)) (w m 1) 0 0
theorem cNtr {S : St} {t : Nat} {m : Nat → Int32} (h : RT S t m) (hW : WF m) (ht : TP t) : f_X5_size S (t + 11) = some (nI (w m 1)) := p_size (h.row hW ht (k := 4) (by decide))
theorem own_eq {m : Nat → Int32} (hW : WF m) {i p : Nat} (hi : i < w m 1) (hp : p < 6) : nI (own m i) = nI p ↔ own m i = p := nI_eq (by have := (own_lt hW hi).2; omega) (by omega)
theorem cOwned {N : Nat} (hN : 100 < N) {S : St} {t : Nat} {m : Nat → Int32} (h : RT S t m) (hW : WF m) (ht : TP t) {p : Nat} (hp : p < 6) : f_X8_ownedBy N S (t + 10) (nI p) = some (oSum m p (fun _ => 1)) := by
  have hi2 := hW.nt.2
  refine loopI (fun f i a => f_X8_ownedBy_4 N S f (t + 10) (nI p) a (nI i)) (fun i a => a + (if own m i = p then 1 else 0)) some (w m 1) (fun f a => ?_) (fun f i a hi => ?_) (w m 1) 0 N 0 (by omega) (by omega)
  · show f_X8_ownedBy_4 N S (f + 1) (t + 10) (nI p) a (nI (w m 1)) = _
    rw [f_X8_ownedBy_4, show t + 10 + 1 = t + 11 from rfl, cNtr h hW ht, bnd_some, if_pos (nI_le (Nat.le_refl _) (by omega))]
  · show f_X8_ownedBy_4 N S (f + 1) (t + 10) (nI p) a (nI i) = f_X8_ownedBy_4 N S f (t + 10) (nI p) _ (nI (i + 1))
    rw [f_X8_ownedBy_4, show t + 10 + 1 = t + 11 from rfl, cNtr h hW ht, bnd_some, if_neg (nI_ge hi (by omega)), cOwnV h hW ht hi, bnd_some]
    by_cases c : own m i = p
    · rw [if_pos ((own_eq hW hi hp).mpr c), if_pos c]; unfold f_X8_ownedBy_33; rw [nI_1]
    · rw [if_neg (fun e => c ((own_eq hW hi hp).mp e)), if_neg c]; unfold f_X8_ownedBy_33; rw [nI_1]
theorem cKeptBy {N : Nat} (hN : 100 < N) {S : St} {t : Nat} {m : Nat → Int32} (h : RT S t m) (hW : WF m) (ht : TP t) {p : Nat} (hp : p < 6) : f_X8_keptBy N S (t + 10) (nI p) = some (oSum m p (fun i => m (47 + 4 * i))) := by
  have hi2 := hW.nt.2
  refine loopI (fun f i a => f_X8_keptBy_4 N S f (t + 10) (nI p) a (nI i)) (fun i a => a + (if own m i = p then m (47 + 4 * i) else 0)) some (w m 1) (fun f a => ?_) (fun f i a hi => ?_) (w m 1) 0 N 0 (by omega) (by omega)
  · show f_X8_keptBy_4 N S (f + 1) (t + 10) (nI p) a (nI (w m 1)) = _
    rw [f_X8_keptBy_4, show t + 10 + 1 = t + 11 from rfl, cNtr h hW ht, bnd_some, if_pos (nI_le (Nat.le_refl _) (by omega))]
  · show f_X8_keptBy_4 N S (f + 1) (t + 10) (nI p) a (nI i) = f_X8_keptBy_4 N S f (t + 10) (nI p) _ (nI (i + 1))
    rw [f_X8_keptBy_4, show t + 10 + 1 = t + 11 from rfl, show t + 10 + 7 = t + 17 from rfl, cNtr h hW ht, bnd_some, if_neg (nI_ge hi (by omega)), cOwnV h hW ht hi, bnd_some, cKept h hW ht hi, bnd_some]
    by_cases c : own m i = p
    · rw [if_pos ((own_eq hW hi hp).mpr c), if_pos c]; unfold f_X8_keptBy_40; rw [nI_1]
    · rw [if_neg (fun e => c ((own_eq hW hi hp).mp e)), if_neg c]; unfold f_X8_keptBy_40; rw [nI_1]
theorem cValOwned {N : Nat} (hN : 100 < N) {S : St} {t : Nat} {m : Nat → Int32} (h : RT S t m) (hW : WF m) (ht : TP t) {p : Nat} (hp : p < 6) : f_X8_valueOwnedBy N S (t + 10) (nI p) = some (oSum m p (fun i => nI (val m p i))) := by
  have hi2 := hW.nt.2
  refine loopI (fun f i a => f_X8_valueOwnedBy_4 N S f (t + 10) (nI p) a (nI i)) (fun i a => a + (if own m i = p then nI (val m p i) else 0)) some (w m 1) (fun f a => ?_) (fun f i a hi => ?_) (w m 1) 0 N 0 (by omega) (by omega)
  · show f_X8_valueOwnedBy_4 N S (f + 1) (t + 10) (nI p) a (nI (w m 1)) = _
    rw [f_X8_valueOwnedBy_4, show t + 10 + 1 = t + 11 from rfl, cNtr h hW ht, bnd_some, if_pos (nI_le (Nat.le_refl _) (by omega))]
  · show f_X8_valueOwnedBy_4 N S (f + 1) (t + 10) (nI p) a (nI i) = f_X8_valueOwnedBy_4 N S f (t + 10) (nI p) _ (nI (i + 1))
    rw [f_X8_valueOwnedBy_4, show t + 10 + 1 = t + 11 from rfl, cNtr h hW ht, bnd_some, if_neg (nI_ge hi (by omega)), cOwnV h hW ht hi, bnd_some, cVal h hW ht hp hi, bnd_some]
    by_cases c : own m i = p
    · rw [if_pos ((own_eq hW hi hp).mpr c), if_pos c]; unfold f_X8_valueOwnedBy_38; rw [nI_1]
    · rw [if_neg (fun e => c ((own_eq hW hi hp).mp e)), if_neg c]; unfold f_X8_valueOwnedBy_38; rw [nI_1]
/-- the model's one loop for the three -/
def oC (m : Nat → Int32) (p : Nat) (x : Int32) (i : Nat) : Int32 := if x = 3 then 1 else if x = 4 then m (47 + 4 * i) else nI (val m p i)
theorem mOwns {N : Nat} (hN : 100 < N) {S : St} {m : Nat → Int32} (hM : S.1 173 = m) (hW : WF m) {p : Nat} (hp : p < 6) (x : Int32) : f_X12_owns N S (nI p) x = some (oSum m p (oC m p x)) := by
  have hi2 := hW.nt.2
  have hz : S.1 173 1 = nI (w m 1) := by rw [hM]; exact hW.nt.1
  refine loopI (fun f i a => f_X12_owns_5 N S f (nI p) x a (nI i)) (fun i a => a + (if own m i = p then oC m p x i else 0)) some (w m 1) (fun f a => ?_) (fun f i a hi => ?_) (w m 1) 0 N 0 (by omega) (by omega)
  · show f_X12_owns_5 N S (f + 1) (nI p) x a (nI (w m 1)) = _
    rw [f_X12_owns_5, hz, if_pos (nI_le (Nat.le_refl _) (by omega))]
  · show f_X12_owns_5 N S (f + 1) (nI p) x a (nI i) = f_X12_owns_5 N S f (nI p) x _ (nI (i + 1))
    rw [f_X12_owns_5, hz, if_neg (nI_ge hi (by omega)), mOwnV hM hW (by omega), bnd_some, mKept hM (by omega), bnd_some, mVal hM hW hp (by omega), bnd_some]
    unfold oC
    by_cases c : own m i = p
    · rw [if_pos ((own_eq hW hi hp).mpr c), if_pos c]
      by_cases c3 : x = 3
      · rw [if_pos c3, if_pos c3]; unfold f_X12_owns_62; rw [nI_1]
      · by_cases c4 : x = 4
        · rw [if_neg c3, if_pos c4, if_neg c3, if_pos c4]; unfold f_X12_owns_62; rw [nI_1]
        · rw [if_neg c3, if_neg c4, if_neg c3, if_neg c4]; unfold f_X12_owns_62; rw [nI_1]
    · rw [if_neg (fun e => c ((own_eq hW hi hp).mp e)), if_neg c]; unfold f_X12_owns_62; rw [nI_1]
/-- pairs of which one owns just one -/
def lackM (m : Nat → Int32) (p : Nat) : Int32 := lp (fun k a => a ||| (if (own m (w m (92 + 3 * k)) = p) = (own m (w m (93 + 3 * k)) = p) then 0 else (1 : Int32) <<< (nI k &&& 31))) (w m 2) 0 0
theorem if_iff {α : Type} {c d : Prop} [Decidable c] [Decidable d] (h : c ↔ d) {a b : α} : (if c then a else b) = if d then a else b := by
  by_cases hc : c
  · rw [if_pos hc, if_pos (h.mp hc)]
  · rw [if_neg hc, if_neg (fun hd => hc (h.mpr hd))]
def bI (c : Bool) : Int32 := if c then 1 else 0
theorem bI_eq {a b : Bool} : bI a = bI b ↔ a = b := by cases a <;> cases b <;> decide
def lackS (m : Nat → Int32) (p k : Nat) (a : Int32) : Int32 := if bI (decide (own m (w m (92 + 3 * k)) = p)) = bI (decide (own m (w m (93 + 3 * k)) = p)) then a ||| 0 else a ||| ((1 : Int32) <<< (nI k &&& 31))
theorem cLacks {N : Nat} (hN : 100 < N) {S : St} {t : Nat} {m : Nat → Int32} (h : RT S t m) (hW : WF m) (ht : TP t) {p : Nat} (hp : p < 6) : f_X9_lackedBy N S t (nI p) = some (lp (lackS m p) (w m 2) 0 0) := by
  have hi2 := hW.nt.2
  have hk2 := hW.nk.2
  refine loopI (fun f i a => f_X9_lackedBy_4 N S f t (nI p) a (nI i)) (lackS m p) some (w m 2) (fun f a => ?_) (fun f i a hi => ?_) (w m 2) 0 N 0 (by omega) (by omega)
  · show f_X9_lackedBy_4 N S (f + 1) t (nI p) a (nI (w m 2)) = _
    rw [f_X9_lackedBy_4, cNk h hW ht, bnd_some, if_pos (nI_le (Nat.le_refl _) (by omega))]
  · show f_X9_lackedBy_4 N S (f + 1) t (nI p) a (nI i) = f_X9_lackedBy_4 N S f t (nI p) _ (nI (i + 1))
    obtain ⟨e1, e2, l1, l2⟩ := pr_lt hW hi
    rw [f_X9_lackedBy_4, cNk h hW ht, bnd_some, if_neg (nI_ge hi (by omega)), cOne h hW ht hi, bnd_some, e1, cOwnV h hW ht l1, bnd_some]
    have key : ∀ c : Bool, f_X9_lackedBy_42 N S (f_X9_lackedBy_4 N S f) t (nI p) a (nI i) (bI c) = f_X9_lackedBy_4 N S f t (nI p) (if bI c = bI (decide (own m (w m (93 + 3 * i)) = p)) then a ||| 0 else a ||| ((1 : Int32) <<< (nI i &&& 31))) (nI (i + 1)) := by
      intro c
      unfold f_X9_lackedBy_42
      rw [cOther h hW ht hi, bnd_some, e2, cOwnV h hW ht l2, bnd_some]
      have k2 : ∀ c2 : Bool, f_X9_lackedBy_71 N S (f_X9_lackedBy_4 N S f) t (nI p) a (nI i) (bI c) (bI c2) = f_X9_lackedBy_4 N S f t (nI p) (if bI c = bI c2 then a ||| 0 else a ||| ((1 : Int32) <<< (nI i &&& 31))) (nI (i + 1)) := by
        intro c2
        unfold f_X9_lackedBy_71 f_X9_lackedBy_88
        rw [nI_1]
        split <;> rfl
      by_cases c3 : own m (w m (93 + 3 * i)) = p
      · rw [if_pos ((own_eq hW l2 hp).mpr c3)]
        have := k2 true
        rw [show decide (own m (w m (93 + 3 * i)) = p) = true from decide_eq_true c3]
        exact this
      · rw [if_neg (fun e => c3 ((own_eq hW l2 hp).mp e))]
        have := k2 false
        rw [show decide (own m (w m (93 + 3 * i)) = p) = false from decide_eq_false c3]
        exact this
    unfold lackS
    by_cases c3 : own m (w m (92 + 3 * i)) = p
    · rw [if_pos ((own_eq hW l1 hp).mpr c3), show decide (own m (w m (92 + 3 * i)) = p) = true from decide_eq_true c3]
      exact key true
    · rw [if_neg (fun e => c3 ((own_eq hW l1 hp).mp e)), show decide (own m (w m (92 + 3 * i)) = p) = false from decide_eq_false c3]
      exact key false
theorem mHasOne {S : St} {m : Nat → Int32} (hM : S.1 173 = m) (hW : WF m) {p k : Nat} (hp : p < 6) (hk : k < w m 2) : f_X12_hasOne S (nI p) (nI k) 0 = some (bI (decide (own m (w m (92 + 3 * k)) = p))) ∧ f_X12_hasOne S (nI p) (nI k) 1 = some (bI (decide (own m (w m (93 + 3 * k)) = p))) := by
  obtain ⟨e1, e2, l1, l2⟩ := pr_lt hW hk
  have hi2 := hW.nt.2
  have hk2 := hW.nk.2
  constructor
  · unfold f_X12_hasOne
    rw [mOne hM (by omega), bnd_some, e1, mOwnV hM hW (by omega), bnd_some]
    by_cases c : own m (w m (92 + 3 * k)) = p
    · rw [if_pos ((own_eq hW l1 hp).mpr c), decide_eq_true c]; rfl
    · rw [if_neg (fun e => c ((own_eq hW l1 hp).mp e)), decide_eq_false c]; rfl
  · unfold f_X12_hasOne
    rw [mOther hM (by omega), bnd_some, e2, mOwnV hM hW (by omega), bnd_some]
    by_cases c : own m (w m (93 + 3 * k)) = p
    · rw [if_pos ((own_eq hW l2 hp).mpr c), decide_eq_true c]; rfl
    · rw [if_neg (fun e => c ((own_eq hW l2 hp).mp e)), decide_eq_false c]; rfl
theorem mLacks {N : Nat} (hN : 100 < N) {S : St} {m : Nat → Int32} (hM : S.1 173 = m) (hW : WF m) {p : Nat} (hp : p < 6) : f_X12_lacks N S (nI p) = some (lp (lackS m p) (w m 2) 0 0) := by
  have hk2 := hW.nk.2
  have hz : S.1 173 2 = nI (w m 2) := by rw [hM]; exact hW.nk.1
  refine loopI (fun f i a => f_X12_lacks_4 N S f (nI p) a (nI i)) (lackS m p) some (w m 2) (fun f a => ?_) (fun f i a hi => ?_) (w m 2) 0 N 0 (by omega) (by omega)
  · show f_X12_lacks_4 N S (f + 1) (nI p) a (nI (w m 2)) = _
    rw [f_X12_lacks_4, hz, if_pos (nI_le (Nat.le_refl _) (by omega))]
  · show f_X12_lacks_4 N S (f + 1) (nI p) a (nI i) = f_X12_lacks_4 N S f (nI p) _ (nI (i + 1))
    rw [f_X12_lacks_4, hz, if_neg (nI_ge hi (by omega)), (mHasOne hM hW hp hi).1, bnd_some, (mHasOne hM hW hp hi).2, bnd_some]
    unfold lackS f_X12_lacks_39
    rw [nI_1]
    split <;> rfl
/-- HELD: things, then bonuses -/
def heldA (m : Nat → Int32) : Int32 := lp (fun i a => a + nI (val m (own m i) i)) (w m 1) 0 0
def heldM (m : Nat → Int32) : Int32 := lp (fun k a => a + (if hb m k < 0 then 0 else m (94 + 3 * k))) (w m 2) 0 (heldA m)
theorem cHeld {N : Nat} (hN : 100 < N) {S : St} {t : Nat} {m : Nat → Int32} (h : RT S t m) (hW : WF m) (ht : TP t) : f_X9_held N S t = some (heldM m) := by
  have hi2 := hW.nt.2
  have hk2 := hW.nk.2
  have h2 : ∀ a, f_X9_held_45 N S N t a 0 = some (lp (fun k a => a + (if hb m k < 0 then 0 else m (94 + 3 * k))) (w m 2) 0 a) := by
    intro a0
    refine loopI (fun f i a => f_X9_held_45 N S f t a (nI i)) (fun k a => a + (if hb m k < 0 then 0 else m (94 + 3 * k))) some (w m 2) (fun f a => ?_) (fun f i a hi => ?_) (w m 2) 0 N a0 (by omega) (by omega)
    · show f_X9_held_45 N S (f + 1) t a (nI (w m 2)) = _
      rw [f_X9_held_45, cNk h hW ht, bnd_some, if_pos (nI_le (Nat.le_refl _) (by omega))]
    · show f_X9_held_45 N S (f + 1) t a (nI i) = f_X9_held_45 N S f t _ (nI (i + 1))
      rw [f_X9_held_45, cNk h hW ht, bnd_some, if_neg (nI_ge hi (by omega)), cHb h hW ht hi, bnd_some, cBonus h hW ht hi, bnd_some]
      unfold f_X9_held_77
      rw [nI_1]
      split <;> rfl
  refine loopI (fun f i a => f_X9_held_4 N S f t a (nI i)) (fun i a => a + nI (val m (own m i) i)) (fun a => some (lp (fun k a => a + (if hb m k < 0 then 0 else m (94 + 3 * k))) (w m 2) 0 a)) (w m 1) (fun f a => ?_) (fun f i a hi => ?_) (w m 1) 0 N 0 (by omega) (by omega)
  · show f_X9_held_4 N S (f + 1) t a (nI (w m 1)) = _
    rw [f_X9_held_4, cNt h hW ht, bnd_some, if_pos (nI_le (Nat.le_refl _) (by omega)), h2]
  · show f_X9_held_4 N S (f + 1) t a (nI i) = f_X9_held_4 N S f t _ (nI (i + 1))
    rw [f_X9_held_4, cNt h hW ht, bnd_some, if_neg (nI_ge hi (by omega)), cOwnV h hW ht hi, bnd_some, cVal h hW ht (own_lt hW hi).2 hi, bnd_some, nI_1]
def mostM (m : Nat → Int32) : Int32 := lp (fun i a => a + nI (val m (fond m i) i)) (w m 1) 0 0
theorem cMost {N : Nat} (hN : 100 < N) {S : St} {t : Nat} {m : Nat → Int32} (h : RT S t m) (hW : WF m) (ht : TP t) : f_X9_most N S t = some (mostM m) := by
  have hi2 := hW.nt.2
  have hp := hW.np.2
  refine loopI (fun f i a => f_X9_most_4 N S f t a (nI i)) (fun i a => a + nI (val m (fond m i) i)) some (w m 1) (fun f a => ?_) (fun f i a hi => ?_) (w m 1) 0 N 0 (by omega) (by omega)
  · show f_X9_most_4 N S (f + 1) t a (nI (w m 1)) = _
    rw [f_X9_most_4, cNt h hW ht, bnd_some, if_pos (nI_le (Nat.le_refl _) (by omega))]
  · show f_X9_most_4 N S (f + 1) t a (nI i) = f_X9_most_4 N S f t _ (nI (i + 1))
    have hf := cFond hN h hW ht hi
    rw [f_X9_most_4, cNt h hW ht, bnd_some, if_neg (nI_ge hi (by omega)), hf.1, bnd_some, cVal h hW ht (by omega) hi, bnd_some, nI_1]
/-- the model's four sums -/
def sumM (m : Nat → Int32) (x : Int32) : Int32 := if x = 0 then heldM m else if x = 1 then mostM m else if x = 5 then lp (fun i a => a + m (46 + 4 * i)) (w m 1) 0 0 else lp (fun i a => a + m (45 + 4 * i)) (w m 1) 0 0
theorem mSumOf {N : Nat} (hN : 100 < N) {S : St} {t : Nat} {m : Nat → Int32} (hM : S.1 173 = m) (h : RT S t m) (hW : WF m) (ht : TP t) (x : Int32) : f_X12_sumOf N S x = some (sumM m x) := by
  have hi2 := hW.nt.2
  have hk2 := hW.nk.2
  have hp := hW.np.2
  have hz : S.1 173 1 = nI (w m 1) := by rw [hM]; exact hW.nt.1
  have hz2 : S.1 173 2 = nI (w m 2) := by rw [hM]; exact hW.nk.1
  have h2 : ∀ a, f_X12_sumOf_80 N S N 0 a 0 = some (lp (fun k a => a + (if hb m k < 0 then 0 else m (94 + 3 * k))) (w m 2) 0 a) := by
    intro a0
    refine loopI (fun f i a => f_X12_sumOf_80 N S f 0 a (nI i)) (fun k a => a + (if hb m k < 0 then 0 else m (94 + 3 * k))) some (w m 2) (fun f a => ?_) (fun f i a hi => ?_) (w m 2) 0 N a0 (by omega) (by omega)
    · show f_X12_sumOf_80 N S (f + 1) 0 a (nI (w m 2)) = _
      rw [f_X12_sumOf_80, hz2, if_pos (nI_le (Nat.le_refl _) (by omega))]
    · show f_X12_sumOf_80 N S (f + 1) 0 a (nI i) = f_X12_sumOf_80 N S f 0 _ (nI (i + 1))
      rw [f_X12_sumOf_80, hz2, if_neg (nI_ge hi (by omega)), if_pos rfl, mHb hM hW hi, bnd_some, mBonus hM (by omega), bnd_some]
      unfold f_X12_sumOf_113
      rw [nI_1]
      by_cases c : hb m i < 0
      · rw [if_neg (Int32.not_le.mpr c), if_pos c]
      · rw [if_pos (Int32.not_lt.mp c), if_neg c]
  have h3 : ∀ x a, x ≠ 0 → f_X12_sumOf_80 N S N x a 0 = some a := by
    intro x a hx
    obtain ⟨N, rfl⟩ := fuel (k := 0) (f := N) (by omega)
    rw [f_X12_sumOf_80, hz2, if_neg hx]
    split <;> rfl
  unfold sumM
  by_cases c0 : x = 0
  · subst c0
    rw [if_pos rfl]
    refine loopI (fun f i a => f_X12_sumOf_4 N S f 0 a (nI i)) (fun i a => a + nI (val m (own m i) i)) (fun a => some (lp (fun k a => a + (if hb m k < 0 then 0 else m (94 + 3 * k))) (w m 2) 0 a)) (w m 1) (fun f a => ?_) (fun f i a hi => ?_) (w m 1) 0 N 0 (by omega) (by omega)
    · show f_X12_sumOf_4 N S (f + 1) 0 a (nI (w m 1)) = _
      rw [f_X12_sumOf_4, hz, if_pos (nI_le (Nat.le_refl _) (by omega)), h2]
    · show f_X12_sumOf_4 N S (f + 1) 0 a (nI i) = f_X12_sumOf_4 N S f 0 _ (nI (i + 1))
      rw [f_X12_sumOf_4, hz, if_neg (nI_ge hi (by omega)), if_pos rfl, mOwnV hM hW (by omega), bnd_some, mVal hM hW (own_lt hW hi).2 (by omega), bnd_some]
      unfold f_X12_sumOf_70
      rw [nI_1]
  · rw [if_neg c0]
    by_cases c1 : x = 1
    · subst c1
      rw [if_pos rfl]
      refine loopI (fun f i a => f_X12_sumOf_4 N S f 1 a (nI i)) (fun i a => a + nI (val m (fond m i) i)) some (w m 1) (fun f a => ?_) (fun f i a hi => ?_) (w m 1) 0 N 0 (by omega) (by omega)
      · show f_X12_sumOf_4 N S (f + 1) 1 a (nI (w m 1)) = _
        rw [f_X12_sumOf_4, hz, if_pos (nI_le (Nat.le_refl _) (by omega)), h3 _ _ c0]
      · show f_X12_sumOf_4 N S (f + 1) 1 a (nI i) = f_X12_sumOf_4 N S f 1 _ (nI (i + 1))
        have hf := (cFond hN h hW ht hi).2
        rw [f_X12_sumOf_4, hz, if_neg (nI_ge hi (by omega)), if_neg c0, if_pos rfl, mFond hN hM hW hi, bnd_some, mVal hM hW (by omega) (by omega), bnd_some]
        unfold f_X12_sumOf_70
        rw [nI_1]
    · rw [if_neg c1]
      by_cases c5 : x = 5
      · subst c5
        rw [if_pos rfl]
        refine loopI (fun f i a => f_X12_sumOf_4 N S f 5 a (nI i)) (fun i a => a + m (46 + 4 * i)) some (w m 1) (fun f a => ?_) (fun f i a hi => ?_) (w m 1) 0 N 0 (by omega) (by omega)
        · show f_X12_sumOf_4 N S (f + 1) 5 a (nI (w m 1)) = _
          rw [f_X12_sumOf_4, hz, if_pos (nI_le (Nat.le_refl _) (by omega)), h3 _ _ c0]
        · show f_X12_sumOf_4 N S (f + 1) 5 a (nI i) = f_X12_sumOf_4 N S f 5 _ (nI (i + 1))
          rw [f_X12_sumOf_4, hz, if_neg (nI_ge hi (by omega)), if_neg c0, if_neg c1, if_pos rfl, mSound hM (by omega), bnd_some]
          unfold f_X12_sumOf_70
          rw [nI_1]
      · rw [if_neg c5]
        refine loopI (fun f i a => f_X12_sumOf_4 N S f x a (nI i)) (fun i a => a + m (45 + 4 * i)) some (w m 1) (fun f a => ?_) (fun f i a hi => ?_) (w m 1) 0 N 0 (by omega) (by omega)
        · show f_X12_sumOf_4 N S (f + 1) x a (nI (w m 1)) = _
          rw [f_X12_sumOf_4, hz, if_pos (nI_le (Nat.le_refl _) (by omega)), h3 _ _ c0]
        · show f_X12_sumOf_4 N S (f + 1) x a (nI i) = f_X12_sumOf_4 N S f x _ (nI (i + 1))
          rw [f_X12_sumOf_4, hz, if_neg (nI_ge hi (by omega)), if_neg c0, if_neg c1, if_neg c5, mPrice hM (by omega), bnd_some]
          unfold f_X12_sumOf_70
          rw [nI_1]
/-- town()'s seven figures -/
def figM (m : Nat → Int32) (x : Int32) : Int32 := if x = 2 then lp (fun i a => a + m (21 + 4 * i)) (w m 0) 0 0 else if x = 3 then m 5 else if x = 4 then m 4 else sumM m x
theorem cSumRow {N : Nat} (hN : 100 < N) {S : St} {t : Nat} {m : Nat → Int32} (h : RT S t m) (hW : WF m) (ht : TP t) {k : Nat} (hk : k < 15) (hs : siz m k < 100) : f_X5_sum N S (t + off k) = some (lp (fun i a => a + m (cel k i)) (siz m k) 0 0) := by
  rw [p_sum (h.row hW ht hk) (by omega)]
  refine congrArg some (lp_congr _ _ _ (fun j b h1 h2 => ?_))
  show b + S.1 (t + off k + 1) j = b + m (cel k j)
  rw [(h.1 k hk).2 j (by omega)]
  rfl
theorem cFig {N : Nat} (hN : 100 < N) {S : St} {t : Nat} {m : Nat → Int32} (h : RT S t m) (hW : WF m) (ht : TP t) {x : Nat} (hx : x ≤ 6) : f_X9_figure N S t (nI x) = some (figM m (nI x)) := by
  have hi2 := hW.nt.2
  have hp := hW.np.2
  unfold f_X9_figure figM sumM
  have e : x = 0 ∨ x = 1 ∨ x = 2 ∨ x = 3 ∨ x = 4 ∨ x = 5 ∨ x = 6 := by omega
  rcases e with rfl | rfl | rfl | rfl | rfl | rfl | rfl
  · rw [if_pos (by decide), cHeld hN h hW ht, bnd_some, if_neg (by decide), if_neg (by decide), if_neg (by decide), if_pos (by decide)]
  · rw [if_neg (by decide), if_pos (by decide), cMost hN h hW ht, bnd_some, if_neg (by decide), if_neg (by decide), if_neg (by decide), if_neg (by decide), if_pos (by decide)]
  · rw [if_neg (by decide), if_neg (by decide), if_pos (by decide), show t + 4 = t + off 1 from rfl, cSumRow hN h hW ht (k := 1) (by decide) (show w m 0 < 100 by omega), bnd_some, if_pos (by decide)]
    rfl
  · rw [if_neg (by decide), if_neg (by decide), if_neg (by decide), if_pos (by decide), if_neg (by decide), if_pos (by decide), h.2.2.2.2.2.1]
  · rw [if_neg (by decide), if_neg (by decide), if_neg (by decide), if_neg (by decide), if_pos (by decide), if_neg (by decide), if_neg (by decide), if_pos (by decide), h.2.2.2.2.1]
  · rw [if_neg (by decide), if_neg (by decide), if_neg (by decide), if_neg (by decide), if_neg (by decide), if_pos (by decide), show t + 15 = t + off 6 from rfl, cSumRow hN h hW ht (k := 6) (by decide) (show w m 1 < 100 by omega), bnd_some, if_neg (by decide), if_neg (by decide), if_neg (by decide), if_neg (by decide), if_neg (by decide), if_pos (by decide)]
    rfl
  · rw [if_neg (by decide), if_neg (by decide), if_neg (by decide), if_neg (by decide), if_neg (by decide), if_neg (by decide), show t + 13 = t + off 5 from rfl, cSumRow hN h hW ht (k := 5) (by decide) (show w m 1 < 100 by omega), bnd_some, if_neg (by decide), if_neg (by decide), if_neg (by decide), if_neg (by decide), if_neg (by decide), if_neg (by decide)]
    rfl
theorem mFig {N : Nat} (hN : 100 < N) {S : St} {t : Nat} {m : Nat → Int32} (hM : S.1 173 = m) (h : RT S t m) (hW : WF m) (ht : TP t) (x : Int32) : f_X12_townOf N S x = some (figM m x) := by
  have hp := hW.np.2
  have hz : S.1 173 0 = nI (w m 0) := by rw [hM]; exact hW.np.1
  unfold f_X12_townOf figM
  by_cases c3 : x = 3
  · subst c3
    rw [if_pos rfl, if_neg (by decide), if_pos rfl]
    unfold f_X12_townOf_10 f_X12_townOf_24
    rw [if_pos rfl]
    exact mIx hM rfl (by decide)
  · by_cases c4 : x = 4
    · subst c4
      rw [if_neg (by decide), if_pos rfl, if_neg (by decide), if_neg (by decide), if_pos rfl]
      unfold f_X12_townOf_10 f_X12_townOf_24
      rw [if_neg (by decide)]
      exact mIx hM rfl (by decide)
    · rw [if_neg c3, if_neg c4]
      by_cases c2 : x = 2
      · rw [if_pos c2, if_pos c2]
        refine loopI (fun f i a => f_X12_townOf_41 N S f a (nI i)) (fun i a => a + m (21 + 4 * i)) some (w m 0) (fun f a => ?_) (fun f i a hi => ?_) (w m 0) 0 N 0 (by omega) (by omega)
        · show f_X12_townOf_41 N S (f + 1) a (nI (w m 0)) = _
          rw [f_X12_townOf_41, hz, if_pos (nI_le (Nat.le_refl _) (by omega))]
        · show f_X12_townOf_41 N S (f + 1) a (nI i) = f_X12_townOf_41 N S f _ (nI (i + 1))
          rw [f_X12_townOf_41, hz, if_neg (nI_ge hi (by omega)), mPurse hM (by omega), bnd_some, nI_1]
      · rw [if_neg c2, if_neg c2, if_neg c3, if_neg c4, mSumOf hN hM h hW ht, bnd_some]
