/-! WHAT IS ASKED OF A TOWN, on both sides -/
def fond (m : Nat → Int32) (i : Nat) : Nat := lp (fun p b => if val m p i ≤ val m b i then b else p) (w m 0 - 1) 1 0
theorem cFond {N : Nat} (hN : 100 < N) {S : St} {t : Nat} {m : Nat → Int32} (h : RT S t m) (hW : WF m) (ht : TP t) {i : Nat} (hi : i < w m 1) : f_X9_fondestOf N S t (nI i) = some (nI (fond m i)) ∧ fond m i < w m 0 := by
  have hp := hW.np.2
  have ho := own_lt hW hi
  have hi2 := hW.nt.2
  have step : ∀ f j s b, j < w m 0 → (s = nI b ∧ b < w m 0) → ∃ s', f_X9_fondestOf_4 N S (f + 1) t (nI i) s (nI j) = f_X9_fondestOf_4 N S f t (nI i) s' (nI (j + 1)) ∧ s' = nI (if val m j i ≤ val m b i then b else j) ∧ (if val m j i ≤ val m b i then b else j) < w m 0 := by
    intro f j s b hj hr
    obtain ⟨rfl, hb⟩ := hr
    have v1 := (val_lt hW (p := j) (i := i) (by omega) (by omega)).1
    have v2 := (val_lt hW (p := b) (i := i) (by omega) (by omega)).1
    rw [f_X9_fondestOf_4, cNp h hW ht, bnd_some, if_neg (nI_ge hj (by omega)), cVal h hW ht (by omega) hi, bnd_some, cVal h hW ht (by omega) hi, bnd_some]
    by_cases c : val m j i ≤ val m b i
    · rw [if_pos (nI_le c (by omega)), if_pos c]
      exact ⟨nI b, by unfold f_X9_fondestOf_38; rw [nI_1], rfl, hb⟩
    · rw [if_neg (nI_ge (by omega) (by omega)), if_neg c]
      exact ⟨nI j, by unfold f_X9_fondestOf_38; rw [nI_1], rfl, hj⟩
  obtain ⟨s', f', e, r1, r2⟩ := loopR (fun f j s => f_X9_fondestOf_4 N S f t (nI i) s (nI j)) (fun _ s b => s = nI b ∧ b < w m 0) (fun p b => if val m p i ≤ val m b i then b else p) (w m 0) step (w m 0 - 1) 1 N 0 0 ⟨rfl, by omega⟩ (by omega) (by omega)
  refine ⟨?_, r2⟩
  unfold f_X9_fondestOf
  rw [k1]
  refine e.trans ?_
  show f_X9_fondestOf_4 N S (f' + 1) t (nI i) s' (nI (w m 0)) = _
  rw [f_X9_fondestOf_4, cNp h hW ht, bnd_some, if_pos (nI_le (Nat.le_refl _) (by omega)), r1]
  rfl
theorem mFond {N : Nat} (hN : 100 < N) {S : St} {m : Nat → Int32} (hM : S.1 173 = m) (hW : WF m) {i : Nat} (hi : i < w m 1) : f_X12_fondest N S (nI i) = some (nI (fond m i)) := by
  have hp := hW.np.2
  have ho := own_lt hW hi
  have hi2 := hW.nt.2
  have hz : S.1 173 0 = nI (w m 0) := by rw [hM]; exact hW.np.1
  have step : ∀ f j s b, j < w m 0 → (s = nI b ∧ b < w m 0) → ∃ s', f_X12_fondest_4 N S (f + 1) (nI i) s (nI j) = f_X12_fondest_4 N S f (nI i) s' (nI (j + 1)) ∧ s' = nI (if val m j i ≤ val m b i then b else j) ∧ (if val m j i ≤ val m b i then b else j) < w m 0 := by
    intro f j s b hj hr
    obtain ⟨rfl, hb⟩ := hr
    have v1 := (val_lt hW (p := j) (i := i) (by omega) (by omega)).1
    have v2 := (val_lt hW (p := b) (i := i) (by omega) (by omega)).1
    rw [f_X12_fondest_4, hz, if_neg (nI_ge hj (by omega)), mVal hM hW (by omega) (by omega), bnd_some, mVal hM hW (by omega) (by omega), bnd_some]
    by_cases c : val m j i ≤ val m b i
    · rw [if_pos (nI_le c (by omega)), if_pos c]
      exact ⟨nI b, by unfold f_X12_fondest_34; rw [nI_1], rfl, hb⟩
    · rw [if_neg (nI_ge (by omega) (by omega)), if_neg c]
      exact ⟨nI j, by unfold f_X12_fondest_34; rw [nI_1], rfl, hj⟩
  obtain ⟨s', f', e, r1, r2⟩ := loopR (fun f j s => f_X12_fondest_4 N S f (nI i) s (nI j)) (fun _ s b => s = nI b ∧ b < w m 0) (fun p b => if val m p i ≤ val m b i then b else p) (w m 0) step (w m 0 - 1) 1 N 0 0 ⟨rfl, by omega⟩ (by omega) (by omega)
  unfold f_X12_fondest
  rw [k1]
  refine e.trans ?_
  show f_X12_fondest_4 N S (f' + 1) (nI i) s' (nI (w m 0)) = _
  rw [f_X12_fondest_4, hz, if_pos (nI_le (Nat.le_refl _) (by omega)), r1]
  rfl
/-- the greatest value to anybody else -/
def mostE (m : Nat → Int32) (i : Nat) : Nat := lp (fun p a => if p = own m i then a else if a < val m p i then val m p i else a) (w m 0) 0 0
theorem mostE_le {m : Nat → Int32} (hW : WF m) {i : Nat} (hi : i < 12) : mostE m i ≤ 9999 := by
  have hp := hW.np.2
  have := lp_inv (f := fun p a => if p = own m i then a else if a < val m p i then val m p i else a) (fun _ a => a ≤ 9999) (w m 0) 0 0 (by omega) (fun j b h1 h2 h3 => by
    have := (val_lt hW (p := j) (i := i) (by omega) hi).1
    split
    · exact h3
    · split <;> omega)
  exact this
theorem cMostE {N : Nat} (hN : 100 < N) {S : St} {t : Nat} {m : Nat → Int32} (h : RT S t m) (hW : WF m) (ht : TP t) {i : Nat} (hi : i < w m 1) : f_X9_mostElse N S t (nI i) = some (nI (mostE m i)) := by
  have hp := hW.np.2
  have ho := own_lt hW hi
  have hi2 := hW.nt.2
  have step : ∀ f j s b, j < w m 0 → (s = nI b ∧ b ≤ 9999) → ∃ s', f_X9_mostElse_17 N S (f + 1) t (nI i) (nI (own m i)) s (nI j) = f_X9_mostElse_17 N S f t (nI i) (nI (own m i)) s' (nI (j + 1)) ∧ s' = nI (if j = own m i then b else if b < val m j i then val m j i else b) ∧ (if j = own m i then b else if b < val m j i then val m j i else b) ≤ 9999 := by
    intro f j s b hj hr
    obtain ⟨rfl, hb⟩ := hr
    have v1 := (val_lt hW (p := j) (i := i) (by omega) (by omega)).1
    rw [f_X9_mostElse_17, cNp h hW ht, bnd_some, if_neg (nI_ge hj (by omega))]
    by_cases c : j = own m i
    · rw [if_pos ((nI_eq (by omega) (by omega)).mpr c), if_pos c]
      exact ⟨nI b, by unfold f_X9_mostElse_50; rw [nI_1], rfl, hb⟩
    · rw [if_neg (fun e => c ((nI_eq (by omega) (by omega)).mp e)), if_neg c, cVal h hW ht (by omega) hi, bnd_some]
      refine ⟨(if nI b < nI (val m j i) then nI (val m j i) else nI b), by unfold f_X9_mostElse_50; rw [nI_1], ?_, by split <;> omega⟩
      by_cases c2 : b < val m j i
      · rw [if_pos (nI_lt c2 (by omega)), if_pos c2]
      · rw [if_neg (nI_nlt (by omega) (by omega)), if_neg c2]
  obtain ⟨s', f', e, r1, r2⟩ := loopR (fun f j s => f_X9_mostElse_17 N S f t (nI i) (nI (own m i)) s (nI j)) (fun _ s b => s = nI b ∧ b ≤ 9999) (fun p a => if p = own m i then a else if a < val m p i then val m p i else a) (w m 0) step (w m 0) 0 N 0 0 ⟨rfl, by omega⟩ (by omega) (by omega)
  unfold f_X9_mostElse
  rw [cOwnV h hW ht hi, bnd_some]
  refine e.trans ?_
  show f_X9_mostElse_17 N S (f' + 1) t (nI i) (nI (own m i)) s' (nI (w m 0)) = _
  rw [f_X9_mostElse_17, cNp h hW ht, bnd_some, if_pos (nI_le (Nat.le_refl _) (by omega)), r1]
  rfl
theorem mMostE {N : Nat} (hN : 100 < N) {S : St} {m : Nat → Int32} (hM : S.1 173 = m) (hW : WF m) {i : Nat} (hi : i < w m 1) : f_X12_greatestElse N S (nI i) = some (nI (mostE m i)) := by
  have hp := hW.np.2
  have ho := own_lt hW hi
  have hi2 := hW.nt.2
  have hz : S.1 173 0 = nI (w m 0) := by rw [hM]; exact hW.np.1
  have step : ∀ f j s b, j < w m 0 → (s = nI b ∧ b ≤ 9999) → ∃ s', f_X12_greatestElse_4 N S (f + 1) (nI i) s (nI j) = f_X12_greatestElse_4 N S f (nI i) s' (nI (j + 1)) ∧ s' = nI (if j = own m i then b else if b < val m j i then val m j i else b) ∧ (if j = own m i then b else if b < val m j i then val m j i else b) ≤ 9999 := by
    intro f j s b hj hr
    obtain ⟨rfl, hb⟩ := hr
    have v1 := (val_lt hW (p := j) (i := i) (by omega) (by omega)).1
    rw [f_X12_greatestElse_4, hz, if_neg (nI_ge hj (by omega)), mVal hM hW (by omega) (by omega), bnd_some, mOwnV hM hW (by omega), bnd_some]
    by_cases c : j = own m i
    · rw [if_pos ((nI_eq (by omega) (by omega)).mpr c), if_pos c]
      exact ⟨nI b, by unfold f_X12_greatestElse_42 f_X12_greatestElse_43; rw [nI_1], rfl, hb⟩
    · rw [if_neg (fun e => c ((nI_eq (by omega) (by omega)).mp e)), if_neg c]
      by_cases c2 : b < val m j i
      · rw [if_neg (nI_ge c2 (by omega)), if_pos c2]
        exact ⟨nI (val m j i), by unfold f_X12_greatestElse_43; rw [nI_1], rfl, by omega⟩
      · rw [if_pos (nI_le (by omega) (by omega)), if_neg c2]
        exact ⟨nI b, by unfold f_X12_greatestElse_42 f_X12_greatestElse_43; rw [nI_1], rfl, hb⟩
  obtain ⟨s', f', e, r1, r2⟩ := loopR (fun f j s => f_X12_greatestElse_4 N S f (nI i) s (nI j)) (fun _ s b => s = nI b ∧ b ≤ 9999) (fun p a => if p = own m i then a else if a < val m p i then val m p i else a) (w m 0) step (w m 0) 0 N 0 0 ⟨rfl, by omega⟩ (by omega) (by omega)
  unfold f_X12_greatestElse
  refine e.trans ?_
  show f_X12_greatestElse_4 N S (f' + 1) (nI i) s' (nI (w m 0)) = _
  rw [f_X12_greatestElse_4, hz, if_pos (nI_le (Nat.le_refl _) (by omega)), r1]
  rfl
/-- who has a pair's bonus -/
def hb (m : Nat → Int32) (k : Nat) : Int32 := if w m (46 + 4 * w m (92 + 3 * k)) < 50 then -1 else if w m (46 + 4 * w m (93 + 3 * k)) < 50 then -1 else if own m (w m (92 + 3 * k)) = own m (w m (93 + 3 * k)) then nI (own m (w m (92 + 3 * k))) else -1
theorem pr_lt {m : Nat → Int32} (hW : WF m) {k : Nat} (hk : k < w m 2) : m (92 + 3 * k) = nI (w m (92 + 3 * k)) ∧ m (93 + 3 * k) = nI (w m (93 + 3 * k)) ∧ w m (92 + 3 * k) < w m 1 ∧ w m (93 + 3 * k) < w m 1 := by
  have hk2 := hW.nk.2
  have := hW.2.2.2.1 k hk
  exact ⟨(hW.ty (l_one k (by omega)) (by decide)).1, (hW.ty (l_other k (by omega)) (by decide)).1, this.1, this.2⟩
theorem cHb {S : St} {t : Nat} {m : Nat → Int32} (h : RT S t m) (hW : WF m) (ht : TP t) {k : Nat} (hk : k < w m 2) : f_X9_bonusOwner S t (nI k) = some (hb m k) := by
  obtain ⟨e1, e2, l1, l2⟩ := pr_lt hW hk
  have hi2 := hW.nt.2
  have s1 := hW.ty (l_sound (w m (92 + 3 * k)) (by omega)) (by decide)
  have s2 := hW.ty (l_sound (w m (93 + 3 * k)) (by omega)) (by decide)
  have o1 := own_lt hW l1
  have o2 := own_lt hW l2
  unfold f_X9_bonusOwner hb
  rw [cOne h hW ht hk, bnd_some, cOther h hW ht hk, bnd_some, e1, e2, cSound h hW ht l1, bnd_some, s1.1, k50]
  have d54 : f_X9_bonusOwner_54 S t (nI (w m (92 + 3 * k))) (nI (w m (93 + 3 * k))) = some (-1) := by
    unfold f_X9_bonusOwner_54 f_X9_bonusOwner_55
    rw [cOwnV h hW ht l1, bnd_some, if_pos rfl]
  by_cases c : w m (46 + 4 * w m (92 + 3 * k)) < 50
  · rw [if_pos (nI_lt c (by decide)), if_pos c, d54]
  · rw [if_neg (nI_nlt (by omega) (by omega)), if_neg c, cSound h hW ht l2, bnd_some, s2.1]
    by_cases c2 : w m (46 + 4 * w m (93 + 3 * k)) < 50
    · rw [if_pos (nI_lt c2 (by decide)), if_pos c2, d54]
    · rw [if_neg (nI_nlt (by omega) (by omega)), if_neg c2]
      unfold f_X9_bonusOwner_55
      rw [cOwnV h hW ht l1, bnd_some, if_neg (by decide), cOwnV h hW ht l2, bnd_some]
      by_cases c3 : own m (w m (92 + 3 * k)) = own m (w m (93 + 3 * k))
      · rw [if_pos (by rw [c3]), if_pos c3]
      · rw [if_neg (fun e => c3 ((nI_eq (by omega) (by omega)).mp e)), if_neg c3]
theorem mHb {S : St} {m : Nat → Int32} (hM : S.1 173 = m) (hW : WF m) {k : Nat} (hk : k < w m 2) : f_X12_hasBonus S (nI k) = some (hb m k) := by
  obtain ⟨e1, e2, l1, l2⟩ := pr_lt hW hk
  have hi2 := hW.nt.2
  have hk2 := hW.nk.2
  have s1 := hW.ty (l_sound (w m (92 + 3 * k)) (by omega)) (by decide)
  have s2 := hW.ty (l_sound (w m (93 + 3 * k)) (by omega)) (by decide)
  have o1 := own_lt hW l1
  have o2 := own_lt hW l2
  unfold f_X12_hasBonus hb
  rw [mOne hM (by omega), bnd_some, mOther hM (by omega), bnd_some, e1, e2, mSound hM (by omega), bnd_some, s1.1, k50]
  have d54 : f_X12_hasBonus_40 S (nI (w m (92 + 3 * k))) (nI (w m (93 + 3 * k))) = some (-1) := by
    unfold f_X12_hasBonus_40 f_X12_hasBonus_41
    rw [if_pos rfl]
  by_cases c : w m (46 + 4 * w m (92 + 3 * k)) < 50
  · rw [if_pos (nI_lt c (by decide)), if_pos c, d54]
  · rw [if_neg (nI_nlt (by omega) (by omega)), if_neg c, mSound hM (by omega), bnd_some, s2.1]
    by_cases c2 : w m (46 + 4 * w m (93 + 3 * k)) < 50
    · rw [if_pos (nI_lt c2 (by decide)), if_pos c2, d54]
    · rw [if_neg (nI_nlt (by omega) (by omega)), if_neg c2]
      unfold f_X12_hasBonus_41
      rw [if_neg (by decide), mOwnV hM hW (by omega), bnd_some, mOwnV hM hW (by omega), bnd_some]
      by_cases c3 : own m (w m (92 + 3 * k)) = own m (w m (93 + 3 * k))
      · rw [if_pos (by rw [c3]), if_pos c3, bnd_some]
      · rw [if_neg (fun e => c3 ((nI_eq (by omega) (by omega)).mp e)), if_neg c3]
