/-! COPIES -/
theorem mLay {N : Nat} (hN : 1000 < N) {S : St} {v0 v1 : Nat} (h0 : ln v0 = 516) (h1 : ln v1 = 516) (hne : v0 ≠ v1) : ∃ S', f_X12_lay N S v0 v1 = some S' ∧ (∀ q, q ≠ v1 → S'.1 q = S.1 q) ∧ S'.2 = S.2 ∧ ∀ x, x < 516 → S'.1 v1 x = S.1 v0 x := by
  have hstep : ∀ (f i : Nat) (s : St) (a : Unit), i < 516 → ((∀ q, q ≠ v1 → s.1 q = S.1 q) ∧ s.2 = S.2 ∧ ∀ x, x < i → s.1 v1 x = S.1 v0 x) → ∃ s', f_X12_lay_2 N (f + 1) s v0 v1 (nI i) = f_X12_lay_2 N f s' v0 v1 (nI (i + 1)) ∧ ((∀ q, q ≠ v1 → s'.1 q = S.1 q) ∧ s'.2 = S.2 ∧ ∀ x, x < i + 1 → s'.1 v1 x = S.1 v0 x) := by
    intro f i s _ hi hR
    obtain ⟨r1, r2, r3⟩ := hR
    refine ⟨pt s v1 i (S.1 v0 i), ?_, fun q hq => by rw [pt_nek hq]; exact r1 q hq, r2, fun x hx => ?_⟩
    · rw [f_X12_lay_2, k516, if_neg (nI_ge hi (by decide)), h0, h1, if_pos (inb_nI hi (by decide)), if_pos (inb_nI hi (by decide)), nI_clamp (by omega), r1 v0 hne, nI_1]
    · by_cases e : x = i
      · subst e; rw [pt_at]
      · rw [pt_nej e]; exact r3 x (by omega)
  obtain ⟨s', f', e1, e2⟩ := loopR (fun f i s => f_X12_lay_2 N f s v0 v1 (nI i)) (fun i s (_ : Unit) => (∀ q, q ≠ v1 → s.1 q = S.1 q) ∧ s.2 = S.2 ∧ ∀ x, x < i → s.1 v1 x = S.1 v0 x) (fun _ a => a) 516 hstep 516 0 N S () ⟨fun _ _ => rfl, rfl, fun x hx => absurd hx (Nat.not_lt_zero _)⟩ (by omega) (by omega)
  refine ⟨s', ?_, e2⟩
  unfold f_X12_lay
  refine e1.trans ?_
  show f_X12_lay_2 N (f' + 1) s' v0 v1 (nI 516) = _
  rw [f_X12_lay_2, k516, if_pos (nI_le (Nat.le_refl _) (by decide))]
/-- nothing is asked of a town past its 516 numbers -/
theorem lim_516 {x : Nat} (h : 0 < lim x) : x < 516 := by
  rcases Nat.lt_or_ge x 516 with c | c
  · exact c
  · exfalso
    unfold lim at h
    rw [if_neg (by omega), if_neg (by omega), if_neg (by omega), if_neg (by omega), if_neg (by omega), if_neg (by omega), if_neg (by omega), if_neg (by omega), if_neg (by omega), if_neg (by omega), if_neg (by omega), if_neg (by omega), if_neg (by omega), if_neg (by omega), if_neg (by omega)] at h
    exact absurd h (Nat.lt_irrefl _)
theorem WF.congr {m m' : Nat → Int32} (h : WF m) (e : ∀ x, x < 516 → m' x = m x) : WF m' := by
  have ew : ∀ x, x < 516 → w m' x = w m x := fun x hx => by unfold w; rw [e x hx]
  have hp := h.np.2
  have hi := h.nt.2
  have hk := h.nk.2
  refine ⟨fun x hx => ?_, fun p hp' => ?_, fun i hi' => ?_, fun k hk' => ?_, h.2.2.2.2.1.congr (fun x a b => e x (by unfold tb at b; omega)), h.2.2.2.2.2.congr (fun x a b => e x (by unfold tb at b; omega))⟩
  · rw [e x (lim_516 hx), ew x (lim_516 hx)]; exact h.1 x hx
  · rw [ew 0 (by decide)] at hp'
    rw [ew _ (by omega)]; exact h.2.1 p hp'
  · rw [ew 1 (by decide)] at hi'
    rw [ew 0 (by decide), ew _ (by omega)]; exact h.2.2.1 i hi'
  · rw [ew 2 (by decide)] at hk'
    rw [ew 1 (by decide), ew _ (by omega), ew _ (by omega)]; exact h.2.2.2.1 k hk'
theorem cel_lt {k i : Nat} (hk : k < 15) (hi : i < cap k) : cel k i < 516 := by
  have h : (List.range 15).all (fun k => (List.range (cap k)).all (fun i => decide (cel k i < 516))) = true := by decide +kernel
  exact of_decide_eq_true (List.all_eq_true.mp (List.all_eq_true.mp h k (List.mem_range.mpr hk)) i (List.mem_range.mpr hi))
theorem siz_congr {m m' : Nat → Int32} (e : ∀ x, x < 516 → m' x = m x) {k : Nat} (hk : k < 15) : siz m' k = siz m k := by
  have ew : ∀ x, x < 516 → w m' x = w m x := fun x hx => by unfold w; rw [e x hx]
  have h : (List.range 15).all (fun k => decide (cntx k < 516)) = true := by decide +kernel
  have hc := of_decide_eq_true (List.all_eq_true.mp h k (List.mem_range.mpr hk))
  unfold siz
  rw [ew _ hc]
theorem RT.congr {S : St} {t : Nat} {m m' : Nat → Int32} (h : RT S t m) (hW : WF m) (e : ∀ x, x < 516 → m' x = m x) : RT S t m' := by
  obtain ⟨h1, h2, h3, h4, h5, h6, h7⟩ := h
  refine ⟨fun k hk => ⟨by rw [siz_congr e hk]; exact (h1 k hk).1, fun i hi => ?_⟩, h2.congr hW.2.2.2.2.1.2.1 (fun x a b => e x (by unfold tb at b; omega)) ⟨rfl, rfl, rfl⟩, h3.congr hW.2.2.2.2.2.2.1 (fun x a b => e x (by unfold tb at b; omega)) ⟨rfl, rfl, rfl⟩, by rw [e 3 (by decide)]; exact h4, by rw [e 4 (by decide)]; exact h5, by rw [e 5 (by decide)]; exact h6, by rw [e 8 (by decide)]; exact h7⟩
  rw [siz_congr e hk] at hi
  have hl := cel_lt hk (Nat.lt_of_lt_of_le hi (hW.szc k hk))
  show _ = m' (cel k i)
  rw [e _ hl]
  exact (h1 k hk).2 i hi
