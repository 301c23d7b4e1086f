/-! THE CLASS'S COPY OF A TOWN -/
def DN (S : St) (t : Nat) (m : Nat → Int32) (L : List Nat) : Prop := ∀ k, k ∈ L → k < 15 ∧ rowR S (t + off k) (siz m k) (bas k) (stp k) m
theorem off_sep : ∀ k, k < 15 → ∀ k', k' < 15 → k' ≠ k → off k' ≠ off k ∧ off k' + 1 ≠ off k ∧ off k' ≠ off k + 1 := fun k hk k' hk' => by
  have h : (List.range 15).all (fun k => (List.range 15).all (fun k' => decide (k' ≠ k → off k' ≠ off k ∧ off k' + 1 ≠ off k ∧ off k' ≠ off k + 1))) = true := by decide +kernel
  exact of_decide_eq_true (List.all_eq_true.mp (List.all_eq_true.mp h k (List.mem_range.mpr hk)) k' (List.mem_range.mpr hk'))
theorem off_lt : ∀ k, k < 15 → off k < 46 ∧ 1 < off k ∧ (off k < 29 ∨ 42 < off k) := fun k hk => by
  have h : (List.range 15).all (fun k => decide (off k < 46 ∧ 1 < off k ∧ (off k < 29 ∨ 42 < off k))) = true := by decide +kernel
  exact of_decide_eq_true (List.all_eq_true.mp h k (List.mem_range.mpr hk))
theorem TP.sep {t t' : Nat} (h : TP t) (h' : TP t') (hne : t ≠ t') : t + 47 ≤ t' ∨ t' + 47 ≤ t := by rcases h with rfl | rfl | rfl <;> rcases h' with rfl | rfl | rfl <;> omega
theorem cpRow {S : St} {t1 t2 : Nat} {m : Nat → Int32} (h : RT S t1 m) (hW : WF m) (h1 : TP t1) (h2 : TP t2) (hne : t2 ≠ t1) {L : List Nat} (hD : DN S t2 m L) {k : Nat} (hk : k < 15) : ∃ S', f_X5_copy S (t2 + off k) (t1 + off k) = some S' ∧ RT S' t1 m ∧ FrC t2 S S' ∧ DN S' t2 m (k :: L) ∧ (∀ q, q ≠ t2 + off k → q ≠ t2 + off k + 1 → S'.1 q = S.1 q) := by
  have ho := off_lt k hk
  have hs := h2.sep h1 hne
  have hl : ln (t2 + off k + 1) = ln (t1 + off k + 1) := by rw [ln_row h2 hk, ln_row h1 hk]
  have hf : ∀ q, q ≠ t2 + off k → q ≠ t2 + off k + 1 → (cp S (t2 + off k) (t1 + off k) (siz m k)).1 q = S.1 q := fun q a b => cp_fr a b
  refine ⟨cp S (t2 + off k) (t1 + off k) (siz m k), p_copy (h.row hW h1 hk) hl (fun _ => by omega) (by omega), h.fr (fun q a b => hf q (by omega) (by omega)), fun q a b => hf q (by omega) (by omega), fun k' hk' => ?_, hf⟩
  rcases List.mem_cons.mp hk' with rfl | hk'
  · refine ⟨hk, cp_size, fun i hi => ?_⟩
    rw [cp_arr hi]
    exact (h.1 k' hk).2 i hi
  · by_cases e : k' = k
    · subst e
      refine ⟨hk, cp_size, fun i hi => ?_⟩
      rw [cp_arr hi]
      exact (h.1 k' hk).2 i hi
    · obtain ⟨a1, a2, a3⟩ := hD k' hk'
      have sp := off_sep k hk k' a1 e
      refine ⟨a1, by rw [hf _ (by omega) (by omega)]; exact a2, fun i hi => ?_⟩
      rw [hf _ (by omega) (by omega)]
      exact a3 i hi
theorem ln_code {t u : Nat} (ht : TP t) (hu : u < 2) : ln (t + 30 + 7 * u + 1) = 60 := by
  rcases (show u = 0 ∨ u = 1 by omega) with rfl | rfl <;> rcases ht with rfl | rfl | rfl <;> decide
/-- a text, copied; the row of names stays -/
theorem cpTxt {S : St} {t1 t2 : Nat} {m : Nat → Int32} (h : RT S t1 m) (hW : WF m) (h1 : TP t1) (h2 : TP t2) (hne : t2 ≠ t1) {L : List Nat} (hD : DN S t2 m L) {u : Nat} (hu : u < 2) (hn : S.1 (t2 + 32 + 7 * u) 1 = nI 5) : ∃ S', f_X7_hold S (t2 + 29 + 7 * u) (t1 + 30 + 7 * u) = some S' ∧ RT S' t1 m ∧ FrC t2 S S' ∧ DN S' t2 m L ∧ txtR S' t2 u m ∧ (∀ q, q ≠ t2 + 30 + 7 * u → q ≠ t2 + 31 + 7 * u → S'.1 q = S.1 q) := by
  have hs := h2.sep h1 hne
  have hT : txtR S t1 u m := by rcases (show u = 0 ∨ u = 1 by omega) with rfl | rfl; exact h.2.1; exact h.2.2.1
  have h60 : w m (tb u) ≤ 60 := by rcases (show u = 0 ∨ u = 1 by omega) with rfl | rfl; exact hW.2.2.2.2.1.2.1; exact hW.2.2.2.2.2.2.1
  have hr : RW S (t1 + 30 + 7 * u) (w m (tb u)) := ⟨hT.1, by rw [ln_code h1 hu]; exact h60, by rw [ln_code h1 hu]; decide⟩
  have hf : ∀ q, q ≠ t2 + 30 + 7 * u → q ≠ t2 + 31 + 7 * u → (cp S (t2 + 30 + 7 * u) (t1 + 30 + 7 * u) (w m (tb u))).1 q = S.1 q := fun q a b => cp_fr a (by omega)
  refine ⟨cp S (t2 + 30 + 7 * u) (t1 + 30 + 7 * u) (w m (tb u)), ?_, h.fr (fun q a b => hf q (by omega) (by omega)), fun q a b => hf q (by omega) (by omega), fun k hk => ?_, ⟨cp_size, fun k hk => ?_, by rw [hf _ (by omega) (by omega)]; exact hn⟩, hf⟩
  · unfold f_X7_hold
    rw [show t2 + 29 + 7 * u + 1 = t2 + 30 + 7 * u by omega, p_copy hr (by rw [ln_code h1 hu, ln_code h2 hu]) (fun _ => by omega) (by omega), bnd_some]
  · obtain ⟨a1, a2, a3⟩ := hD k hk
    have ho := off_lt k a1
    refine ⟨a1, by rw [hf _ (by omega) (by omega)]; exact a2, fun i hi => ?_⟩
    rw [hf _ (by omega) (by omega)]
    exact a3 i hi
  · rw [show t2 + 31 + 7 * u = t2 + 30 + 7 * u + 1 by omega, cp_arr hk, show t1 + 30 + 7 * u + 1 = t1 + 31 + 7 * u by omega]
    exact hT.2.1 k hk
