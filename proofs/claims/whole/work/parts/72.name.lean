/-! A NAMED PRICE -/
theorem RT.fr2 {S S' : St} {t : Nat} {m : Nat → Int32} (h : RT S t m) (hf : ∀ q, t ≤ q → q < t + 47 → (q < t + 33 ∨ t + 35 < q) → (q < t + 40 ∨ t + 42 < q) → S'.1 q = S.1 q) : RT S' t m := by
  obtain ⟨h1, h2, h3, h4, h5, h6, h7⟩ := h
  have ho : ∀ k, k < 15 → off k < 46 ∧ (off k < 32 ∨ 42 < off k) := fun k hk => by
    have h : (List.range 15).all (fun k => decide (off k < 46 ∧ (off k < 32 ∨ 42 < off k))) = true := by decide +kernel
    exact of_decide_eq_true (List.all_eq_true.mp h k (List.mem_range.mpr hk))
  refine ⟨fun k hk => ?_, ?_, ?_, ?_, ?_, ?_, ?_⟩
  · have := ho k hk
    refine ⟨by rw [hf _ (by omega) (by omega) (by omega) (by omega)]; exact (h1 k hk).1, fun i hi => by rw [hf _ (by omega) (by omega) (by omega) (by omega)]; exact (h1 k hk).2 i hi⟩
  · exact ⟨by rw [hf _ (by omega) (by omega) (by omega) (by omega)]; exact h2.1, fun k hk => by rw [hf _ (by omega) (by omega) (by omega) (by omega)]; exact h2.2.1 k hk, by rw [hf _ (by omega) (by omega) (by omega) (by omega)]; exact h2.2.2⟩
  · exact ⟨by rw [hf _ (by omega) (by omega) (by omega) (by omega)]; exact h3.1, fun k hk => by rw [hf _ (by omega) (by omega) (by omega) (by omega)]; exact h3.2.1 k hk, by rw [hf _ (by omega) (by omega) (by omega) (by omega)]; exact h3.2.2⟩
  all_goals rw [hf _ (by omega) (by omega) (by omega) (by omega)]; assumption
def hld (x : Int32) : Int32 := if 0 ≤ x then (if x ≤ 9999 then x else 9999) else 0
theorem mHeld {S : St} {x : Int32} : f_X12_held S x 0 9999 = some (hld x) := by
  unfold f_X12_held hld
  split
  · split <;> rfl
  · rfl
theorem hld_clamp (a : Int32) : (if (0 : Int32) < (if (9999 : Int32) < a then (9999 : Int32) else a) then (if (9999 : Int32) < a then (9999 : Int32) else a) else (0 : Int32)) = hld a := by
  unfold hld
  have e0 : (0 : Int32).toInt = 0 := by decide
  have e9 : (9999 : Int32).toInt = 9999 := by decide
  by_cases c : 9999 < a
  · rw [if_pos c, if_pos (by decide)]
    rw [Int32.lt_iff_toInt_lt] at c
    rw [if_pos (by rw [Int32.le_iff_toInt_le]; omega), if_neg (by rw [Int32.le_iff_toInt_le]; omega)]
  · rw [if_neg c]
    rw [Int32.lt_iff_toInt_lt] at c
    by_cases d : 0 < a
    · rw [if_pos d]
      rw [Int32.lt_iff_toInt_lt] at d
      rw [if_pos (by rw [Int32.le_iff_toInt_le]; omega), if_pos (by rw [Int32.le_iff_toInt_le]; omega)]
    · rw [if_neg d]
      by_cases e : 0 ≤ a
      · rw [if_pos e, if_pos (by rw [Int32.le_iff_toInt_le]; omega)]
        rw [Int32.lt_iff_toInt_lt] at d
        rw [Int32.le_iff_toInt_le] at e
        apply Int32.toInt_inj.mp; omega
      · rw [if_neg e]
theorem hld_n {n : Nat} (h : n ≤ 9999) : hld (nI n) = nI n := by
  unfold hld
  rw [if_pos (nI_pos' (by omega)), k9999, if_pos (nI_le h (by decide))]
theorem hld_2 {n : Nat} (h : n < 2 ^ 31) : hld (nI n) = if (9999 : Int32) < nI n then 9999 else nI n := by
  unfold hld
  rw [if_pos (nI_pos' h), k9999]
  by_cases c : n ≤ 9999
  · rw [if_pos (nI_le c (by decide)), if_neg (nI_nlt c (by decide))]
  · rw [if_neg (nI_ge (by omega) h), if_pos (nI_lt (by omega) h)]
theorem hld_m1 {n : Nat} (h : n ≤ 9999) : hld (nI n - 1) = if nI n - 1 < 0 then 0 else nI n - 1 := by
  rcases Nat.eq_zero_or_pos n with rfl | hn
  · rfl
  · rw [k1, nI_sub hn, if_neg (nI_pos (by omega)), hld_n (by omega)]
def nmN (m : Nat → Int32) (i : Nat) (c : Int32) : Int32 := if c = 118 then nI (val m (own m i) i) else if c = 109 then nI (mostE m i) else if c = 112 then m (45 + 4 * i) else if c = 114 then m 10 else m 3
def raw (m : Nat → Int32) (i : Nat) : Int32 := if w m (20 + 4 * own m i) = 1 then nI (val m (own m i) i) else if w m (20 + 4 * own m i) = 2 then nI (2 * val m (own m i) i) else if w m (20 + 4 * own m i) = 3 then nI (val m (own m i) i / 2) else if w m (20 + 4 * own m i) = 4 then nI (mostE m i) - 1 else if w m (20 + 4 * own m i) = 5 then (if w m (tb 0) = 0 then nI (val m (own m i) i) else tw m 0 (nmN m i)) else if w m (20 + 4 * own m i) = 6 then bst m (own m i) i (m 10) else m (45 + 4 * i)
theorem nm0 {c : Int32} {j : Nat} (h : isNm 0 c) (e : idxS (2 + 0) c = nI j) (hj : j < 5) : (j = 0 ∧ c = 118) ∨ (j = 1 ∧ c = 109) ∨ (j = 2 ∧ c = 112) ∨ (j = 3 ∧ c = 114) ∨ (j = 4 ∧ c = 121) := by
  unfold isNm at h
  rw [if_pos rfl] at h
  have inj : ∀ k, k < 5 → nI k = nI j → j = k := fun k hk e => ((nI_eq (by omega) (by omega)).mp e).symm
  rcases h with rfl | rfl | rfl | rfl | rfl
  · exact Or.inl ⟨inj 0 (by decide) e, rfl⟩
  · exact Or.inr (Or.inr (Or.inr (Or.inl ⟨inj 3 (by decide) e, rfl⟩)))
  · exact Or.inr (Or.inl ⟨inj 1 (by decide) e, rfl⟩)
  · exact Or.inr (Or.inr (Or.inl ⟨inj 2 (by decide) e, rfl⟩))
  · exact Or.inr (Or.inr (Or.inr (Or.inr ⟨inj 4 (by decide) e, rfl⟩)))
theorem ln_txt {t u : Nat} (ht : TP t) (hu : u < 2) : ln (t + 29 + 7 * u + 2) = 60 ∧ ln (t + 29 + 7 * u + 4) = 5 ∧ ln (t + 29 + 7 * u + 6) = 60 := by
  rcases (show u = 0 ∨ u = 1 by omega) with rfl | rfl <;> rcases ht with rfl | rfl | rfl <;> decide
theorem p_name {S : St} {r j : Nat} {v : Int32} (h : S.1 (r + 3) 1 = nI 5) (hl : ln (r + 4) = 5) (hj : j < 5) : f_X7_setName S r (nI j) v = some (pt S (r + 4) j v) := by
  unfold f_X7_setName
  rw [p_set (n := 5) ⟨h, by rw [show r + 3 + 1 = r + 4 from rfl, hl]; decide, by rw [show r + 3 + 1 = r + 4 from rfl, hl]; decide⟩ hj, bnd_some]
theorem cByText {N : Nat} (hN : 100 < N) {S : St} {t : Nat} {m : Nat → Int32} (h : RT S t m) (hW : WF m) (ht : TP t) {i : Nat} (hi : i < w m 1) (hn : 0 < w m (tb 0)) : ∃ S', f_X9_nameByText N S t (nI i) (nI (val m (own m i) i)) = some (hld (tw m 0 (nmN m i)), S') ∧ FrC t S S' ∧ RT S' t m := by
  have hl := ln_txt (u := 0) ht (by decide)
  have hz : S.1 (t + 29 + 3) 1 = nI 5 := h.2.1.2.2
  have hfr : ∀ (s : St) (j : Nat) (v : Int32), RT s t m → RT (pt s (t + 29 + 4) j v) t m := fun s j v hs => hs.fr2 (fun q a b c d => pt_nek (by omega))
  have hr0 : ∀ s, RT s t m → f_X5_at s (t + 27) 0 = some (m 10) := fun s hs => cRule hs hW ht (j := 0) (by decide)
  have a0 : f_X7_setName S (t + 29) 0 (nI (val m (own m i) i)) = _ := p_name (j := 0) hz hl.2.1 (by decide)
  generalize e1 : pt S (t + 29 + 4) 0 (nI (val m (own m i) i)) = S1 at a0
  have h1 : RT S1 t m := by rw [← e1]; exact hfr _ _ _ h
  have a1 : f_X7_setName S1 (t + 29) 1 (nI (mostE m i)) = _ := p_name (j := 1) h1.2.1.2.2 hl.2.1 (by decide)
  generalize e2 : pt S1 (t + 29 + 4) 1 (nI (mostE m i)) = S2 at a1
  have h2 : RT S2 t m := by rw [← e2]; exact hfr _ _ _ h1
  have a2 : f_X7_setName S2 (t + 29) 2 (m (45 + 4 * i)) = _ := p_name (j := 2) h2.2.1.2.2 hl.2.1 (by decide)
  generalize e3 : pt S2 (t + 29 + 4) 2 (m (45 + 4 * i)) = S3 at a2
  have h3 : RT S3 t m := by rw [← e3]; exact hfr _ _ _ h2
  have a3 : f_X7_setName S3 (t + 29) 3 (m 10) = _ := p_name (j := 3) h3.2.1.2.2 hl.2.1 (by decide)
  generalize e4 : pt S3 (t + 29 + 4) 3 (m 10) = S4 at a3
  have h4 : RT S4 t m := by rw [← e4]; exact hfr _ _ _ h3
  have a4 : f_X7_setName S4 (t + 29) 4 (S4.1 t 11) = _ := p_name (j := 4) h4.2.1.2.2 hl.2.1 (by decide)
  rw [h4.2.2.2.1] at a4
  generalize e5 : pt S4 (t + 29 + 4) 4 (m 3) = S5 at a4
  have h5 : RT S5 t m := by rw [← e5]; exact hfr _ _ _ h4
  have f5 : ∀ q, q ≠ t + 29 + 4 → S5.1 q = S.1 q := fun q hq => by rw [← e5, ← e4, ← e3, ← e2, ← e1, pt_nek hq, pt_nek hq, pt_nek hq, pt_nek hq, pt_nek hq]
  have hnm : ∀ c j, j < 5 → isNm 0 c → idxS (2 + 0) c = nI j → S5.1 (t + 29 + 4) j = nmN m i c := fun c j hb hc hj => by
    rcases nm0 hc hj hb with ⟨rfl, rfl⟩ | ⟨rfl, rfl⟩ | ⟨rfl, rfl⟩ | ⟨rfl, rfl⟩ | ⟨rfl, rfl⟩
    · rw [← e5, ← e4, ← e3, ← e2, ← e1, pt_nej (by decide), pt_nej (by decide), pt_nej (by decide), pt_nej (by decide), pt_at]; rfl
    · rw [← e5, ← e4, ← e3, ← e2, pt_nej (by decide), pt_nej (by decide), pt_nej (by decide), pt_at]; rfl
    · rw [← e5, ← e4, ← e3, pt_nej (by decide), pt_nej (by decide), pt_at]; rfl
    · rw [← e5, ← e4, pt_nej (by decide), pt_at]; rfl
    · rw [← e5, pt_at]; rfl
  obtain ⟨S6, a6, f6, _⟩ := cWork (u := 0) (v := t + 29) hN (by decide) hW.2.2.2.2.1 hn h5.2.1.1 h5.2.1.2.1 h5.2.1.2.2 hl hnm
  have f56 : ∀ q, q ≠ t + 29 + 4 → q ≠ t + 29 + 5 → q ≠ t + 29 + 6 → S6.1 q = S.1 q := fun q x1 x2 x3 => by rw [f6 q x2 x3, f5 q x1]
  refine ⟨S6, ?_, fun q x1 x2 => f56 q (by omega) (by omega) (by omega), h.fr2 (fun q x1 x2 x3 x4 => f56 q (by omega) (by omega) (by omega))⟩
  unfold f_X9_nameByText
  rw [a0, bnd_some, cMostE hN h1 hW ht hi, bnd_some, a1, bnd_some, cPrice h2 hW ht hi, bnd_some, a2, bnd_some, hr0 _ h3, bnd_some, a3, bnd_some, h4.2.2.2.1, a4, bnd_some, a6, bnd2_some, hld_clamp]
theorem nmP_in {m : Nat → Int32} {i : Nat} : ∃ n, n ≤ 9999 ∧ hld (raw m i) = nI n := by
  unfold hld
  split
  · next c =>
    obtain ⟨j, hj, e⟩ := nI_of (x := raw m i) (by rw [Int32.le_iff_toInt_le] at c; rw [Int32.lt_iff_toInt_lt]; omega)
    rw [e, k9999]
    split
    · next d => rw [nI_leI hj (by decide)] at d; exact ⟨j, d, rfl⟩
    · exact ⟨9999, by decide, rfl⟩
  · exact ⟨0, by decide, rfl⟩
theorem cName {N : Nat} (hN : 100 < N) {S : St} {t : Nat} {m : Nat → Int32} (h : RT S t m) (hW : WF m) (ht : TP t) {i : Nat} (hi : i < w m 1) : ∃ S', f_X9_nameFor N S t (nI i) = some (hld (raw m i), S') ∧ FrC t S S' ∧ RT S' t m := by
  have ho := own_lt hW hi
  have hi2 := hW.nt.2
  have hv := (val_lt hW (p := own m i) (i := i) ho.2 (by omega)).1
  have hk := hW.ty (l_kind (own m i) ho.2) (by decide)
  have hpr := hW.ty (l_price i (by omega)) (by decide)
  have hme := mostE_le hW (i := i) (by omega)
  have hfee : m 10 = nI (w m 10) ∧ w m 10 < 100 := hW.ty (x := 10) (n := 100) rfl (by decide)
  have hr0 : ∀ s, RT s t m → f_X5_at s (t + 27) 0 = some (m 10) := fun s hs => cRule hs hW ht (j := 0) (by decide)
  unfold f_X9_nameFor
  rw [cOwnV h hW ht hi, bnd_some, cVal h hW ht ho.2 hi, bnd_some, cKind h hW ht ho.1, bnd_some, hk.1, cPrice h hW ht hi, bnd_some, cMostE hN h hW ht hi, bnd_some]
  unfold raw
  have hk7 := hk.2
  generalize w m (20 + 4 * own m i) = k at hk7 ⊢
  have e : k = 0 ∨ k = 1 ∨ k = 2 ∨ k = 3 ∨ k = 4 ∨ k = 5 ∨ k = 6 := by omega
  rcases e with rfl | rfl | rfl | rfl | rfl | rfl | rfl
  · refine ⟨S, ?_, FrC.refl, h⟩
    rw [if_pos (show nI 0 = (0 : Int32) from rfl), if_neg (by decide), if_neg (by decide), if_neg (by decide), if_neg (by decide), if_neg (by decide), if_neg (by decide), hpr.1, hld_n (by omega)]
  · refine ⟨S, ?_, FrC.refl, h⟩
    rw [if_neg (show ¬ nI 1 = (0 : Int32) by decide), if_pos (show nI 1 = (1 : Int32) from rfl), if_pos rfl, hld_n hv]
  · refine ⟨S, ?_, FrC.refl, h⟩
    rw [if_neg (show ¬ nI 2 = (0 : Int32) by decide), if_neg (show ¬ nI 2 = (1 : Int32) by decide), if_pos (show nI 2 = (2 : Int32) from rfl), if_neg (show ¬ (2 : Nat) = 1 by decide), if_pos (show (2 : Nat) = 2 from rfl), hld_2 (n := 2 * val m (own m i) i) (by omega), k2, pk_mul, Nat.mul_comm]
  · refine ⟨S, ?_, FrC.refl, h⟩
    rw [if_neg (show ¬ nI 3 = (0 : Int32) by decide), if_neg (show ¬ nI 3 = (1 : Int32) by decide), if_neg (show ¬ nI 3 = (2 : Int32) by decide), if_pos (show nI 3 = (3 : Int32) from rfl), if_neg (by decide), if_neg (by decide), if_pos rfl, hld_n (by omega), k2, pk_div (by omega) (by decide) (by decide)]
  · refine ⟨S, ?_, FrC.refl, h⟩
    rw [if_neg (show ¬ nI 4 = (0 : Int32) by decide), if_neg (show ¬ nI 4 = (1 : Int32) by decide), if_neg (show ¬ nI 4 = (2 : Int32) by decide), if_neg (show ¬ nI 4 = (3 : Int32) by decide), if_pos (show nI 4 = (4 : Int32) from rfl), if_neg (show ¬ (4 : Nat) = 1 by decide), if_neg (show ¬ (4 : Nat) = 2 by decide), if_neg (show ¬ (4 : Nat) = 3 by decide), if_pos (show (4 : Nat) = 4 from rfl), hld_m1 hme]
  · rw [if_neg (show ¬ nI 5 = (0 : Int32) by decide), if_neg (show ¬ nI 5 = (1 : Int32) by decide), if_neg (show ¬ nI 5 = (2 : Int32) by decide), if_neg (show ¬ nI 5 = (3 : Int32) by decide), if_neg (show ¬ nI 5 = (4 : Int32) by decide), if_pos (show nI 5 = (5 : Int32) from rfl), if_neg (by decide), if_neg (by decide), if_neg (by decide), if_neg (by decide), if_pos rfl, show f_X7_stands S (t + 29) = _ from cStands h hW (u := 0) (by decide), bnd_some]
    by_cases c : w m (tb 0) = 0
    · refine ⟨S, ?_, FrC.refl, h⟩
      rw [if_pos c, if_pos rfl, if_pos c, hld_n hv]
    · obtain ⟨S', a1, a2, a3⟩ := cByText hN h hW ht hi (Nat.pos_of_ne_zero c)
      refine ⟨S', ?_, a2, a3⟩
      rw [if_neg c, if_neg (show ¬ (1 : Int32) = 0 by decide), if_neg c, a1, bnd2_some]
  · rw [if_neg (show ¬ nI 6 = (0 : Int32) by decide), if_neg (show ¬ nI 6 = (1 : Int32) by decide), if_neg (show ¬ nI 6 = (2 : Int32) by decide), if_neg (show ¬ nI 6 = (3 : Int32) by decide), if_neg (show ¬ nI 6 = (4 : Int32) by decide), if_neg (show ¬ nI 6 = (5 : Int32) by decide), if_neg (by decide), if_neg (by decide), if_neg (by decide), if_neg (by decide), if_neg (by decide), if_pos rfl]
    obtain ⟨S', a1, a2, a3, a4⟩ := cLook hN h hW ht hi
    have hT : RT S' t m := h.fr (fun q x1 x2 => a2 q (Or.inr (by have := ht.ge; omega)))
    refine ⟨S', ?_, fun q x1 x2 => a2 q x1, hT⟩
    rw [a1, bnd_some, hr0 _ hT, bnd_some, hfee.1, cBestP hN hW ho.1 (by omega) hfee.2 a3 a4, bnd_some]
    obtain ⟨n, hn, en⟩ := bst_in (m := m) (o := own m i) (i := i) (fee := nI (w m 10))
    rw [en, hld_n hn]
theorem mName {N : Nat} (hN : 100 < N) {S : St} {m : Nat → Int32} (hM : S.1 173 = m) (hW : WF m) {i : Nat} (hi : i < w m 1) : ∃ S', f_X12_names N S (nI i) = some (hld (raw m i), S') ∧ (∀ q, q ≠ 178 → q ≠ 179 → S'.1 q = S.1 q) ∧ S'.2 = S.2 := by
  have ho := own_lt hW hi
  have hi2 := hW.nt.2
  have hv := (val_lt hW (p := own m i) (i := i) ho.2 (by omega)).1
  have hk := hW.ty (l_kind (own m i) ho.2) (by decide)
  have hfee : m 10 = nI (w m 10) ∧ w m 10 < 100 := hW.ty (x := 10) (n := 100) rfl (by decide)
  suffices hs : ∃ S', f_X12_namedBy N S (nI i) = some (raw m i, S') ∧ (∀ q, q ≠ 178 → q ≠ 179 → S'.1 q = S.1 q) ∧ S'.2 = S.2 by
    obtain ⟨S', a1, a2⟩ := hs
    refine ⟨S', ?_, a2⟩
    unfold f_X12_names
    rw [a1, bnd2_some, mHeld, bnd_some]
  have hst : f_X12_hasText S 0 = _ := mStands hM hW (u := 0) (by decide)
  unfold f_X12_namedBy
  rw [mOwnV hM hW (by omega), bnd_some, mVal hM hW ho.2 (by omega), bnd_some, mKind hM ho.2, bnd_some, hk.1, hst, bnd_some, mMostE hN hM hW hi, bnd_some, mPrice hM (by omega), bnd_some]
  unfold raw
  have hk7 := hk.2
  generalize w m (20 + 4 * own m i) = k at hk7 ⊢
  have e : k = 0 ∨ k = 1 ∨ k = 2 ∨ k = 3 ∨ k = 4 ∨ k = 5 ∨ k = 6 := by omega
  rcases e with rfl | rfl | rfl | rfl | rfl | rfl | rfl
  · refine ⟨S, ?_, fun _ _ _ => rfl, rfl⟩
    rw [if_neg (show ¬ nI 0 = (1 : Int32) by decide), if_neg (show ¬ nI 0 = (2 : Int32) by decide), if_neg (show ¬ nI 0 = (3 : Int32) by decide), if_neg (show ¬ nI 0 = (4 : Int32) by decide), if_neg (show ¬ nI 0 = (5 : Int32) by decide), if_neg (show ¬ nI 0 = (6 : Int32) by decide), if_neg (by decide), if_neg (by decide), if_neg (by decide), if_neg (by decide), if_neg (by decide), if_neg (by decide)]
  · refine ⟨S, ?_, fun _ _ _ => rfl, rfl⟩
    rw [if_pos (show nI 1 = (1 : Int32) from rfl), if_pos rfl]
  · refine ⟨S, ?_, fun _ _ _ => rfl, rfl⟩
    rw [if_neg (show ¬ nI 2 = (1 : Int32) by decide), if_pos (show nI 2 = (2 : Int32) from rfl), if_neg (show ¬ (2 : Nat) = 1 by decide), if_pos (show (2 : Nat) = 2 from rfl), k2, pk_mul]
  · refine ⟨S, ?_, fun _ _ _ => rfl, rfl⟩
    rw [if_neg (show ¬ nI 3 = (1 : Int32) by decide), if_neg (show ¬ nI 3 = (2 : Int32) by decide), if_pos (show nI 3 = (3 : Int32) from rfl), if_neg (by decide), if_neg (by decide), if_pos rfl, k2, pk_div (by omega) (by decide) (by decide)]
  · refine ⟨S, ?_, fun _ _ _ => rfl, rfl⟩
    rw [if_neg (show ¬ nI 4 = (1 : Int32) by decide), if_neg (show ¬ nI 4 = (2 : Int32) by decide), if_neg (show ¬ nI 4 = (3 : Int32) by decide), if_pos (show nI 4 = (4 : Int32) from rfl), if_neg (by decide), if_neg (by decide), if_neg (by decide), if_pos rfl]
  · rw [if_neg (show ¬ nI 5 = (1 : Int32) by decide), if_neg (show ¬ nI 5 = (2 : Int32) by decide), if_neg (show ¬ nI 5 = (3 : Int32) by decide), if_neg (show ¬ nI 5 = (4 : Int32) by decide), if_pos (show nI 5 = (5 : Int32) from rfl), if_neg (show ¬ (5 : Nat) = 1 by decide), if_neg (show ¬ (5 : Nat) = 2 by decide), if_neg (show ¬ (5 : Nat) = 3 by decide), if_neg (show ¬ (5 : Nat) = 4 by decide), if_pos (show (5 : Nat) = 5 from rfl)]
    by_cases c : w m (tb 0) = 0
    · refine ⟨S, ?_, fun _ _ _ => rfl, rfl⟩
      rw [if_pos c, if_pos rfl, if_pos c]
    · rw [if_neg c, if_neg (show ¬ (1 : Int32) = 0 by decide), if_neg c]
      have h1 : (pt S 178 118 (nI (val m (own m i) i))).1 173 = m := by rw [pt_nek (by decide)]; exact hM
      have h2 : (pt (pt S 178 118 (nI (val m (own m i) i))) 178 109 (nI (mostE m i))).1 173 = m := by rw [pt_nek (by decide)]; exact h1
      have h3 : (pt (pt (pt S 178 118 (nI (val m (own m i) i))) 178 109 (nI (mostE m i))) 178 112 (m (45 + 4 * i))).1 173 = m := by rw [pt_nek (by decide)]; exact h2
      have h4 : (pt (pt (pt (pt S 178 118 (nI (val m (own m i) i))) 178 109 (nI (mostE m i))) 178 112 (m (45 + 4 * i))) 178 114 (m 10)).1 173 = m := by rw [pt_nek (by decide)]; exact h3
      rw [mMostE hN h1 hW hi, bnd_some, mPrice h2 (by omega), bnd_some, h3, h4]
      generalize e5 : pt (pt (pt (pt (pt S 178 118 (nI (val m (own m i) i))) 178 109 (nI (mostE m i))) 178 112 (m (45 + 4 * i))) 178 114 (m 10)) 178 121 (m 3) = S5
      have h5 : S5.1 173 = m := by rw [← e5, pt_nek (by decide)]; exact h4
      obtain ⟨S6, a6, f6, g6⟩ := mWork (u := 0) (nm := nmN m i) hN h5 (by decide) hW.2.2.2.2.1 (Nat.pos_of_ne_zero c) (fun c' j hj hc ej => by
        have inj : ∀ k, k < 128 → nI k = nI j → j = k := fun k hk e => ((nI_eq (by omega) (by omega)).mp e).symm
        subst ej
        unfold isNm at hc
        rw [if_pos rfl] at hc
        rcases hc with hc | hc | hc | hc | hc
        · have := inj 118 (by decide) hc.symm; subst this
          rw [← e5, pt_nej (by decide), pt_nej (by decide), pt_nej (by decide), pt_nej (by decide), pt_at]; rfl
        · have := inj 114 (by decide) hc.symm; subst this
          rw [← e5, pt_nej (by decide), pt_at]; rfl
        · have := inj 109 (by decide) hc.symm; subst this
          rw [← e5, pt_nej (by decide), pt_nej (by decide), pt_nej (by decide), pt_at]; rfl
        · have := inj 112 (by decide) hc.symm; subst this
          rw [← e5, pt_nej (by decide), pt_nej (by decide), pt_at]; rfl
        · have := inj 121 (by decide) hc.symm; subst this
          rw [← e5, pt_at]; rfl)
      refine ⟨S6, ?_, fun q x1 x2 => by rw [f6 q x2, ← e5, pt_nek x1, pt_nek x1, pt_nek x1, pt_nek x1, pt_nek x1], by rw [g6, ← e5]; rfl⟩
      rw [show f_X12_worked N S5 0 = _ from a6, bnd2_some]
  · refine ⟨S, ?_, fun _ _ _ => rfl, rfl⟩
    have hb := mBest hN hM hW hi hfee.2
    unfold f_X12_bestOf
    rw [hM, hfee.1, hb, bnd_some, bnd_some, if_neg (show ¬ nI 6 = (1 : Int32) by decide), if_neg (show ¬ nI 6 = (2 : Int32) by decide), if_neg (show ¬ nI 6 = (3 : Int32) by decide), if_neg (show ¬ nI 6 = (4 : Int32) by decide), if_neg (show ¬ nI 6 = (5 : Int32) by decide), if_pos (show nI 6 = (6 : Int32) from rfl), if_neg (by decide), if_neg (by decide), if_neg (by decide), if_neg (by decide), if_neg (by decide), if_pos rfl]
