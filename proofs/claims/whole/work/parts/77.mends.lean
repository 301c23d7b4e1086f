/-! THE YEAR: mending -/
def mdA (i : Nat) (a : Nat → Int32) : Nat → Int32 := upd a (21 + 4 * own a i) (nI (w a (21 + 4 * own a i) - w a 14))
def mdB (i : Nat) (a : Nat → Int32) : Nat → Int32 := upd a (46 + 4 * i) (nI (if 100 < w a (46 + 4 * i) + 10 then 100 else w a (46 + 4 * i) + 10))
def mendS (i : Nat) (a : Nat → Int32) : Nat → Int32 := if isMd a i = 0 then a else mdB i (mdA i a)
theorem isMd_le {a : Nat → Int32} (hW : WF a) {i : Nat} (hi : i < w a 1) (h : ¬ isMd a i = 0) : w a 14 ≤ w a (21 + 4 * own a i) := by
  have ho := own_lt hW hi
  have hpu := hW.ty (l_purse (own a i) ho.2) (by decide)
  have hc : a 14 = nI (w a 14) ∧ w a 14 < 1000 := hW.ty (x := 14) (n := 1000) rfl (by decide)
  by_cases c : a 14 ≤ a (21 + 4 * own a i)
  · rw [hpu.1, hc.1, nI_leI (by omega) (by omega)] at c; exact c
  · exfalso; apply h; unfold isMd; rw [if_neg c]; split <;> rfl
theorem mend_wf {m a : Nat → Int32} (h : WS m a) {i : Nat} (hi : i < w m 1) : WS m (mdA i a) ∧ WS m (mdB i (mdA i a)) := by
  have hia : i < w a 1 := by rw [h.2.2.1]; exact hi
  have hi2 := h.1.nt.2
  have ho := own_lt h.1 hia
  have hpu := h.1.ty (l_purse (own a i) ho.2) (by decide)
  have s1 : WS m (mdA i a) := h.set (by omega) (h.1.set rfl (by omega) (by omega) (by rw [l_purse _ ho.2]; omega) (fun p e => by omega) (fun p e => by omega) (fun k e => by omega))
  exact ⟨s1, s1.set (by omega) (s1.1.set rfl (by omega) (by omega) (by rw [l_sound _ (by omega)]; split <;> omega) (fun p e => by omega) (fun p e => by omega) (fun k e => by omega))⟩
theorem mendS_wf {m a : Nat → Int32} (h : WS m a) {i : Nat} (hi : i < w m 1) : WS m (mendS i a) := by
  unfold mendS
  split
  · exact h
  · exact (mend_wf h hi).2
theorem cMends {N : Nat} (hN : 100 < N) {S S1 : St} {t : Nat} {m : Nat → Int32} (ht : TP t) (h0 : CR S t S1 m) (hW : WF m) : ∃ s, f_X0_mendAll N S1 t = some s ∧ CR S t s (lp mendS (w m 1) 0 m) ∧ WS m (lp mendS (w m 1) 0 m) := by
  have hi2 := hW.nt.2
  have hstep : ∀ (f i : Nat) (s : St) (a : Nat → Int32), i < w m 1 → (CR S t s a ∧ WS m a) → ∃ s', f_X0_mendAll_2 N (f + 1) s t (nI i) = f_X0_mendAll_2 N f s' t (nI (i + 1)) ∧ (CR S t s' (mendS i a) ∧ WS m (mendS i a)) := by
    intro f i s a hi hR
    obtain ⟨r1, r3⟩ := hR
    have hia : i < w a 1 := by rw [r3.2.2.1]; exact hi
    have ho := own_lt r3.1 hia
    obtain ⟨s1, a1, a2, a3⟩ := cMend hN r1.2 r3.1 ht hia
    have hwf := mendS_wf r3 hi
    have h79 : ∀ s' : St, f_X0_mendAll_79 N (f_X0_mendAll_2 N f) s' t (nI i) = f_X0_mendAll_2 N f s' t (nI (i + 1)) := fun s' => by unfold f_X0_mendAll_79; rw [nI_1]
    rw [f_X0_mendAll_2, cNt r1.2 r3.1 ht, r3.2.2.1, bnd_some, if_neg (nI_ge hi (by omega)), a1, bnd2_some]
    unfold mendS at hwf ⊢
    by_cases c : isMd a i = 0
    · rw [if_pos c] at hwf ⊢
      rw [if_pos c, h79]
      exact ⟨s1, rfl, ⟨r1.1.trans a2, a3⟩, hwf⟩
    · rw [if_neg c] at hwf ⊢
      rw [if_neg c]
      obtain ⟨w1, w2⟩ := mend_wf r3 hi
      have hle := isMd_le r3.1 hia c
      have hpu := r3.1.ty (l_purse (own a i) ho.2) (by decide)
      have hc : a 14 = nI (w a 14) ∧ w a 14 < 1000 := r3.1.ty (x := 14) (n := 1000) rfl (by decide)
      have hr4 : f_X5_at s1 (t + 27) 4 = some (a 14) := cRule a3 r3.1 ht (j := 4) (by decide)
      have x1 : f_X3_spend s1 (t + 1) (nI (own a i)) (nI (w a 14)) = some (pt s1 (t + 5) (own a i) (nI (w a (21 + 4 * own a i) - w a 14))) := by
        unfold f_X3_spend
        rw [show t + 1 + 3 = t + 4 from rfl, cPurse a3 r3.1 ht ho.1, bnd_some, hpu.1, nI_sub hle, cSet a3 r3.1 ht (k := 1) (q := t + 4) (by decide) ho.1 rfl, bnd_some]
      generalize e1 : pt s1 (t + 5) (own a i) (nI (w a (21 + 4 * own a i) - w a 14)) = s2 at x1
      have r2 : RT s2 t (mdA i a) := by rw [← e1]; exact a3.put r3.1 (k := 1) (by decide) ho.1 rfl rfl _
      have i2 : i < w (mdA i a) 1 := by rw [w1.2.2.1]; exact hi
      have hs := w1.1.ty (l_sound i (by omega)) (by decide)
      have e6 : (if (100 : Int32) < (mdA i a) (46 + 4 * i) + 10 then (100 : Int32) else (mdA i a) (46 + 4 * i) + 10) = nI (if 100 < w (mdA i a) (46 + 4 * i) + 10 then 100 else w (mdA i a) (46 + 4 * i) + 10) := by
        rw [hs.1, k10, nI_add, k100]
        by_cases d : 100 < w (mdA i a) (46 + 4 * i) + 10
        · rw [if_pos (nI_lt d (by omega)), if_pos d]
        · rw [if_neg (nI_nlt (by omega) (by omega)), if_neg d]
      refine ⟨pt s2 (t + 16) i (nI (if 100 < w (mdA i a) (46 + 4 * i) + 10 then 100 else w (mdA i a) (46 + 4 * i) + 10)), ?_, ⟨?_, r2.put w1.1 (k := 6) (by decide) i2 rfl rfl _⟩, hwf⟩
      · rw [cOwnV a3 r3.1 ht hia, bnd_some, hr4, bnd_some, hc.1, x1, bnd_some, cSound r2 w1.1 ht i2, bnd_some, e6, cSet r2 w1.1 ht (k := 6) (q := t + 15) (by decide) i2 rfl, bnd_some, h79]
      · rw [← e1]; exact ((r1.1.trans a2).pt (Or.inl (by omega))).pt (Or.inl (by omega))
  obtain ⟨s', f', e1, e2⟩ := loopR (fun f i s => f_X0_mendAll_2 N f s t (nI i)) (fun _ s a => CR S t s a ∧ WS m a) mendS (w m 1) hstep (w m 1) 0 N S1 m ⟨h0, WS.refl hW⟩ (by omega) (by omega)
  refine ⟨s', ?_, e2⟩
  unfold f_X0_mendAll
  refine e1.trans ?_
  show f_X0_mendAll_2 N (f' + 1) s' t (nI (w m 1)) = _
  rw [f_X0_mendAll_2, cNt e2.1.2 e2.2.1 ht, e2.2.2.2.1, bnd_some, if_pos (nI_le (Nat.le_refl _) (by omega))]
theorem mMends {N : Nat} (hN : 100 < N) {S S1 : St} {m : Nat → Int32} (h0 : MR S S1 m) (hW : WF m) : ∃ s, f_X12_year_93 N N S1 0 = bnd (f_X12_sharesOut N s) (fun S3 => some (pt S3 173 3 ((S3.1 173 3) + 1))) ∧ MR S s (lp mendS (w m 1) 0 m) ∧ WS m (lp mendS (w m 1) 0 m) := by
  have hi2 := hW.nt.2
  have hz : ∀ s a, MR S s a → WS m a → s.1 173 1 = nI (w m 1) := fun s a h1 h2 => by rw [h1.2.2, ← h2.2.2.1]; exact h2.1.nt.1
  have hstep : ∀ (f i : Nat) (s : St) (a : Nat → Int32), i < w m 1 → (MR S s a ∧ WS m a) → ∃ s', f_X12_year_93 N (f + 1) s (nI i) = f_X12_year_93 N f s' (nI (i + 1)) ∧ (MR S s' (mendS i a) ∧ WS m (mendS i a)) := by
    intro f i s a hi hR
    obtain ⟨r1, r3⟩ := hR
    have hia : i < w a 1 := by rw [r3.2.2.1]; exact hi
    have ho := own_lt r3.1 hia
    obtain ⟨s1, a1, a2, a3⟩ := mMend hN r1.2.2 r3.1 hia
    have hwf := mendS_wf r3 hi
    have hM1 : MR S s1 a := ⟨fun q x1 x2 x3 => by rw [a2 q x2 x3]; exact r1.1 q x1 x2 x3, a3.trans r1.2.1, by rw [a2 _ (by decide) (by decide)]; exact r1.2.2⟩
    rw [f_X12_year_93, hz s a r1 r3, if_neg (nI_ge hi (by omega))]
    unfold f_X12_mends
    rw [a1, bnd2_some]
    unfold mendS at hwf ⊢
    by_cases c : isMd a i = 0
    · rw [if_pos c] at hwf ⊢
      rw [if_pos c, bnd_some, nI_1]
      exact ⟨s1, rfl, hM1, hwf⟩
    · rw [if_neg c] at hwf ⊢
      rw [if_neg c]
      obtain ⟨w1, w2⟩ := mend_wf r3 hi
      have hle := isMd_le r3.1 hia c
      have hpu := r3.1.ty (l_purse (own a i) ho.2) (by decide)
      have hc : a 14 = nI (w a 14) ∧ w a 14 < 1000 := r3.1.ty (x := 14) (n := 1000) rfl (by decide)
      have e1 : (20 : Int32) + 4 * nI (own a i) + 1 = nI (21 + 4 * own a i) := by rw [k20, k4, pk_mul, nI_add, nI_1]; congr 1; omega
      have e3 : (44 : Int32) + 4 * nI i + 2 = nI (46 + 4 * i) := by rw [k44, k4, pk_mul, nI_add, k2, nI_add]; congr 1; omega
      have m1 : MR S (pt s1 173 (21 + 4 * own a i) (nI (w a (21 + 4 * own a i) - w a 14))) (mdA i a) := hM1.pt _ _
      have hs := w1.1.ty (l_sound i (by omega)) (by decide)
      rw [mOwnV hM1.2.2 r3.1 (by omega), bnd_some, e1, if_pos (inb_nI (by omega) (by decide)), if_pos (inb_nI (by omega) (by decide)), nI_clamp (by omega), hM1.2.2, hpu.1, hc.1, nI_sub hle, mSound m1.2.2 (by omega), bnd_some, e3, hs.1, k10, nI_add, k100]
      refine ⟨pt (pt s1 173 (21 + 4 * own a i) (nI (w a (21 + 4 * own a i) - w a 14))) 173 (46 + 4 * i) (nI (if 100 < w (mdA i a) (46 + 4 * i) + 10 then 100 else w (mdA i a) (46 + 4 * i) + 10)), ?_, m1.pt _ _, hwf⟩
      unfold f_X12_mends_69
      rw [if_pos (inb_nI (by omega) (by decide)), if_pos (inb_nI (by omega) (by decide)), nI_clamp (by omega)]
      by_cases d : 100 < w (mdA i a) (46 + 4 * i) + 10
      · rw [if_neg (nI_ge d (by omega)), if_pos d, bnd_some, nI_1]
      · rw [if_pos (nI_le (by omega) (by omega)), if_neg d, bnd_some, nI_1]
  obtain ⟨s', f', e1, e2⟩ := loopR (fun f i s => f_X12_year_93 N f s (nI i)) (fun _ s a => MR S s a ∧ WS m a) mendS (w m 1) hstep (w m 1) 0 N S1 m ⟨h0, WS.refl hW⟩ (by omega) (by omega)
  refine ⟨s', ?_, e2⟩
  refine e1.trans ?_
  show f_X12_year_93 N (f' + 1) s' (nI (w m 1)) = _
  rw [f_X12_year_93, hz _ _ e2.1 e2.2, if_pos (nI_le (Nat.le_refl _) (by omega))]
