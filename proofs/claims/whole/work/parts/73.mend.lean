/-! WHO MENDS -/
def nmM (m : Nat → Int32) (i : Nat) (c : Int32) : Int32 := if c = 118 then nI (val m (own m i) i) else if c = 115 then m (46 + 4 * i) else if c = 99 then m 14 else if c = 117 then m (21 + 4 * own m i) else m 10
def isMd (m : Nat → Int32) (i : Nat) : Int32 := if w m (46 + 4 * i) = 100 then 0 else if m 14 ≤ m (21 + 4 * own m i) then (if w m (tb 1) = 0 then (if nI (val m (own m i) i) / 10 < m 14 then 0 else 1) else (if tw m 1 (nmM m i) = 0 then 0 else 1)) else 0
theorem isMd_b {m : Nat → Int32} {i : Nat} : isMd m i = 0 ∨ isMd m i = 1 := by
  unfold isMd
  split
  · exact Or.inl rfl
  · split
    · split
      · split
        · exact Or.inl rfl
        · exact Or.inr rfl
      · split
        · exact Or.inl rfl
        · exact Or.inr rfl
    · exact Or.inl rfl
theorem nm1 {c : Int32} {j : Nat} (h : isNm 1 c) (e : idxS (2 + 1) c = nI j) (hj : j < 5) : (j = 0 ∧ c = 118) ∨ (j = 1 ∧ c = 115) ∨ (j = 2 ∧ c = 99) ∨ (j = 3 ∧ c = 117) ∨ (j = 4 ∧ c = 114) := by
  unfold isNm at h
  rw [if_neg (by decide)] at h
  have inj : ∀ k, k < 5 → nI k = nI j → j = k := fun k hk e => ((nI_eq (by omega) (by omega)).mp e).symm
  rcases h with rfl | rfl | rfl | rfl | rfl
  · exact Or.inl ⟨inj 0 (by decide) e, rfl⟩
  · exact Or.inr (Or.inr (Or.inr (Or.inr ⟨inj 4 (by decide) e, rfl⟩)))
  · exact Or.inr (Or.inl ⟨inj 1 (by decide) e, rfl⟩)
  · exact Or.inr (Or.inr (Or.inl ⟨inj 2 (by decide) e, rfl⟩))
  · exact Or.inr (Or.inr (Or.inr (Or.inl ⟨inj 3 (by decide) e, rfl⟩)))
theorem cMendText {N : Nat} (hN : 100 < N) {S : St} {t : Nat} {m : Nat → Int32} (h : RT S t m) (hW : WF m) (ht : TP t) {i : Nat} (hi : i < w m 1) (hn : 0 < w m (tb 1)) : ∃ S', f_X9_mendByText N S t (nI i) (nI (val m (own m i) i)) = some (if tw m 1 (nmM m i) = 0 then 0 else 1, S') ∧ FrC t S S' ∧ RT S' t m := by
  have hl := ln_txt (u := 1) ht (by decide)
  have ho := own_lt hW hi
  have hfr : ∀ (s : St) (j : Nat) (v : Int32), RT s t m → RT (pt s (t + 36 + 4) j v) t m := fun s j v hs => hs.fr2 (fun q a b c d => pt_nek (by omega))
  have hr0 : ∀ s, RT s t m → f_X5_at s (t + 27) 0 = some (m 10) := fun s hs => cRule hs hW ht (j := 0) (by decide)
  have hr4 : ∀ s, RT s t m → f_X5_at s (t + 27) 4 = some (m 14) := fun s hs => cRule hs hW ht (j := 4) (by decide)
  have a0 : f_X7_setName S (t + 36) 0 (nI (val m (own m i) i)) = _ := p_name (j := 0) h.2.2.1.2.2 hl.2.1 (by decide)
  generalize e1 : pt S (t + 36 + 4) 0 (nI (val m (own m i) i)) = S1 at a0
  have h1 : RT S1 t m := by rw [← e1]; exact hfr _ _ _ h
  have a1 : f_X7_setName S1 (t + 36) 1 (m (46 + 4 * i)) = _ := p_name (j := 1) h1.2.2.1.2.2 hl.2.1 (by decide)
  generalize e2 : pt S1 (t + 36 + 4) 1 (m (46 + 4 * i)) = S2 at a1
  have h2 : RT S2 t m := by rw [← e2]; exact hfr _ _ _ h1
  have a2 : f_X7_setName S2 (t + 36) 2 (m 14) = _ := p_name (j := 2) h2.2.2.1.2.2 hl.2.1 (by decide)
  generalize e3 : pt S2 (t + 36 + 4) 2 (m 14) = S3 at a2
  have h3 : RT S3 t m := by rw [← e3]; exact hfr _ _ _ h2
  have a3 : f_X7_setName S3 (t + 36) 3 (m (21 + 4 * own m i)) = _ := p_name (j := 3) h3.2.2.1.2.2 hl.2.1 (by decide)
  generalize e4 : pt S3 (t + 36 + 4) 3 (m (21 + 4 * own m i)) = S4 at a3
  have h4 : RT S4 t m := by rw [← e4]; exact hfr _ _ _ h3
  have a4 : f_X7_setName S4 (t + 36) 4 (m 10) = _ := p_name (j := 4) h4.2.2.1.2.2 hl.2.1 (by decide)
  generalize e5 : pt S4 (t + 36 + 4) 4 (m 10) = S5 at a4
  have h5 : RT S5 t m := by rw [← e5]; exact hfr _ _ _ h4
  have f5 : ∀ q, q ≠ t + 36 + 4 → S5.1 q = S.1 q := fun q hq => by rw [← e5, ← e4, ← e3, ← e2, ← e1, pt_nek hq, pt_nek hq, pt_nek hq, pt_nek hq, pt_nek hq]
  have hnm : ∀ c j, j < 5 → isNm 1 c → idxS (2 + 1) c = nI j → S5.1 (t + 36 + 4) j = nmM m i c := fun c j hb hc hj => by
    rcases nm1 hc hj hb with ⟨rfl, rfl⟩ | ⟨rfl, rfl⟩ | ⟨rfl, rfl⟩ | ⟨rfl, rfl⟩ | ⟨rfl, rfl⟩
    · rw [← e5, ← e4, ← e3, ← e2, ← e1, pt_nej (by decide), pt_nej (by decide), pt_nej (by decide), pt_nej (by decide), pt_at]; rfl
    · rw [← e5, ← e4, ← e3, ← e2, pt_nej (by decide), pt_nej (by decide), pt_nej (by decide), pt_at]; rfl
    · rw [← e5, ← e4, ← e3, pt_nej (by decide), pt_nej (by decide), pt_at]; rfl
    · rw [← e5, ← e4, pt_nej (by decide), pt_at]; rfl
    · rw [← e5, pt_at]; rfl
  obtain ⟨S6, a6, f6, _⟩ := cWork (u := 1) (v := t + 36) hN (by decide) hW.2.2.2.2.2 hn h5.2.2.1.1 h5.2.2.1.2.1 h5.2.2.1.2.2 hl hnm
  have f56 : ∀ q, q ≠ t + 36 + 4 → q ≠ t + 36 + 5 → q ≠ t + 36 + 6 → S6.1 q = S.1 q := fun q x1 x2 x3 => by rw [f6 q x2 x3, f5 q x1]
  refine ⟨S6, ?_, fun q x1 x2 => f56 q (by omega) (by omega) (by omega), h.fr2 (fun q x1 x2 x3 x4 => f56 q (by omega) (by omega) (by omega))⟩
  unfold f_X9_mendByText
  rw [a0, bnd_some, cSound h1 hW ht hi, bnd_some, a1, bnd_some, hr4 _ h2, bnd_some, a2, bnd_some, cOwnV h3 hW ht hi, bnd_some, cPurse h3 hW ht ho.1, bnd_some, a3, bnd_some, hr0 _ h4, bnd_some, a4, bnd_some, a6, bnd2_some]
  by_cases c : tw m 1 (nmM m i) = 0
  · rw [if_pos c, if_pos c]
  · rw [if_neg c, if_neg c]
theorem cMend {N : Nat} (hN : 100 < N) {S : St} {t : Nat} {m : Nat → Int32} (h : RT S t m) (hW : WF m) (ht : TP t) {i : Nat} (hi : i < w m 1) : ∃ S', f_X9_wouldMend N S t (nI i) = some (isMd m i, S') ∧ FrC t S S' ∧ RT S' t m := by
  have ho := own_lt hW hi
  have hi2 := hW.nt.2
  have hs := hW.ty (l_sound i (by omega)) (by decide)
  have hr4 : ∀ s, RT s t m → f_X5_at s (t + 27) 4 = some (m 14) := fun s hs => cRule hs hW ht (j := 4) (by decide)
  unfold f_X9_wouldMend isMd
  rw [cOwnV h hW ht hi, bnd_some, cPurse h hW ht ho.1, bnd_some, cSound h hW ht hi, bnd_some, hs.1, k100]
  by_cases c1 : w m (46 + 4 * i) = 100
  · refine ⟨S, ?_, FrC.refl, h⟩
    rw [if_pos (nI_le (by omega) (by omega)), if_pos c1]
  · rw [if_neg (nI_ge (by omega) (by omega)), if_neg c1, hr4 _ h, bnd_some]
    by_cases c2 : m 14 ≤ m (21 + 4 * own m i)
    · rw [if_pos c2, if_pos c2, bnd_some, cVal h hW ht ho.2 hi, bnd_some, show f_X7_stands S (t + 36) = _ from cStands h hW (u := 1) (by decide), bnd_some]
      by_cases c3 : w m (tb 1) = 0
      · refine ⟨S, ?_, FrC.refl, h⟩
        rw [if_pos c3, if_pos rfl, if_pos c3, bnd_some]
        split <;> rfl
      · obtain ⟨S', a1, a2, a3⟩ := cMendText hN h hW ht hi (Nat.pos_of_ne_zero c3)
        refine ⟨S', ?_, a2, a3⟩
        rw [if_neg c3, if_neg (show ¬ (1 : Int32) = 0 by decide), if_neg c3, a1, bnd2_some]
        by_cases c : tw m 1 (nmM m i) = 0
        · rw [if_pos c]; rfl
        · rw [if_neg c]; rfl
    · refine ⟨S, ?_, FrC.refl, h⟩
      rw [if_neg c2, if_neg c2]
theorem mMend {N : Nat} (hN : 100 < N) {S : St} {m : Nat → Int32} (hM : S.1 173 = m) (hW : WF m) {i : Nat} (hi : i < w m 1) : ∃ S', f_X12_isMended N S (nI i) = some (isMd m i, S') ∧ (∀ q, q ≠ 178 → q ≠ 179 → S'.1 q = S.1 q) ∧ S'.2 = S.2 := by
  have ho := own_lt hW hi
  have hi2 := hW.nt.2
  have hs := hW.ty (l_sound i (by omega)) (by decide)
  have hst : f_X12_hasText S 1 = _ := mStands hM hW (u := 1) (by decide)
  unfold f_X12_isMended isMd
  rw [mOwnV hM hW (by omega), bnd_some, mVal hM hW ho.2 (by omega), bnd_some, mSound hM (by omega), bnd_some, hs.1, k100, mPurse hM ho.2, bnd_some, hst, bnd_some, hM]
  by_cases c1 : w m (46 + 4 * i) = 100
  · refine ⟨S, ?_, fun _ _ _ => rfl, rfl⟩
    rw [if_pos (by rw [c1]), if_pos c1]
  · rw [if_neg (fun e => c1 ((nI_eq (by omega) (by omega)).mp e)), if_neg c1]
    by_cases c2 : m 14 ≤ m (21 + 4 * own m i)
    · rw [if_pos c2, if_pos c2]
      by_cases c3 : w m (tb 1) = 0
      · refine ⟨S, ?_, fun _ _ _ => rfl, rfl⟩
        rw [if_pos c3, if_pos rfl, if_pos c3]
        split <;> rfl
      · rw [if_neg c3, if_neg (show ¬ (1 : Int32) = 0 by decide), if_neg c3]
        have h1 : (pt S 178 118 (nI (val m (own m i) i))).1 173 = m := by rw [pt_nek (by decide)]; exact hM
        have h2 : (pt (pt S 178 118 (nI (val m (own m i) i))) 178 115 (m (46 + 4 * i))).1 173 = m := by rw [pt_nek (by decide)]; exact h1
        have h3 : (pt (pt (pt S 178 118 (nI (val m (own m i) i))) 178 115 (m (46 + 4 * i))) 178 99 (m 14)).1 173 = m := by rw [pt_nek (by decide)]; exact h2
        have h4 : (pt (pt (pt (pt S 178 118 (nI (val m (own m i) i))) 178 115 (m (46 + 4 * i))) 178 99 (m 14)) 178 117 (m (21 + 4 * own m i))).1 173 = m := by rw [pt_nek (by decide)]; exact h3
        rw [mSound h1 (by omega), bnd_some, mPurse h3 ho.2, bnd_some, h4]
        generalize e5 : pt (pt (pt (pt (pt S 178 118 (nI (val m (own m i) i))) 178 115 (m (46 + 4 * i))) 178 99 (m 14)) 178 117 (m (21 + 4 * own m i))) 178 114 (m 10) = S5
        have h5 : S5.1 173 = m := by rw [← e5, pt_nek (by decide)]; exact h4
        obtain ⟨S6, a6, f6, g6⟩ := mWork (u := 1) (nm := nmM m i) hN h5 (by decide) hW.2.2.2.2.2 (Nat.pos_of_ne_zero c3) (fun c' j hj hc ej => by
          have inj : ∀ k, k < 128 → nI k = nI j → j = k := fun k hk e => ((nI_eq (by omega) (by omega)).mp e).symm
          subst ej
          unfold isNm at hc
          rw [if_neg (by decide)] at hc
          rcases hc with hc | hc | hc | hc | hc
          · have := inj 118 (by decide) hc.symm; subst this
            rw [← e5, pt_nej (by decide), pt_nej (by decide), pt_nej (by decide), pt_nej (by decide), pt_at]; rfl
          · have := inj 114 (by decide) hc.symm; subst this
            rw [← e5, pt_at]; rfl
          · have := inj 115 (by decide) hc.symm; subst this
            rw [← e5, pt_nej (by decide), pt_nej (by decide), pt_nej (by decide), pt_at]; rfl
          · have := inj 99 (by decide) hc.symm; subst this
            rw [← e5, pt_nej (by decide), pt_nej (by decide), pt_at]; rfl
          · have := inj 117 (by decide) hc.symm; subst this
            rw [← e5, pt_nej (by decide), pt_at]; rfl)
        refine ⟨S6, ?_, fun q x1 x2 => by rw [f6 q x2, ← e5, pt_nek x1, pt_nek x1, pt_nek x1, pt_nek x1, pt_nek x1], by rw [g6, ← e5]; rfl⟩
        rw [show f_X12_worked N S5 1 = _ from a6, bnd2_some]
        by_cases c : tw m 1 (nmM m i) = 0
        · rw [if_pos c, if_pos c]
        · rw [if_neg c, if_neg c]
    · refine ⟨S, ?_, fun _ _ _ => rfl, rfl⟩
      rw [if_neg c2, if_neg c2]
