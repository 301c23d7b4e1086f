/-! the class's reader, whole -/
theorem rd_J {u : Nat} (hu : u < 2) {T : Nat → Nat} {n : Nat} (hT : ∀ i, i < n → T i < 256) : ∀ (k i : Nat) (σ : PSt), J u σ i → i + k = n → ∀ M, rd u T k i σ = .inr M → okM u M ∧ dM M = 1 ∧ M.length ≤ n := by
  intro k
  induction k with
  | zero =>
    intro i σ h h1 M e
    obtain ⟨j1, j2, j3, j4, j5, j6⟩ := h
    have e' : (if σ.2.2.2 = true ∨ 0 < (cls 1 σ.2.1 σ.1).2.length then Sum.inl i else Sum.inr (cls 1 σ.2.1 σ.1).1 : Nat ⊕ ML) = .inr M := e
    by_cases c : σ.2.2.2 = true ∨ 0 < (cls 1 σ.2.1 σ.1).2.length
    · rw [if_pos c] at e'; cases e'
    · rw [if_neg c] at e'
      have hd : ¬ σ.2.2.2 = true := fun g => c (Or.inl g)
      rw [if_neg hd] at j3
      obtain ⟨a1, a2, a3, a4, a5⟩ := cls_J (r := 1) (Nat.le_refl 1) σ.2.1 σ.1 j2 j3 j4
      have hz : (cls 1 σ.2.1 σ.1).2 = [] := List.eq_nil_of_length_eq_zero (by omega)
      cases e'
      rw [hz] at a2
      exact ⟨a1, a2, by omega⟩
  | succ k ih =>
    intro i σ h h1 M e
    have e' : (match nxt u σ (T i) with | none => Sum.inl i | some τ => rd u T k (i + 1) τ : Nat ⊕ ML) = .inr M := e
    cases hx : nxt u σ (T i) with
    | none => rw [hx] at e'; cases e'
    | some τ =>
      rw [hx] at e'
      exact ih (i + 1) τ (nxt_J hu (hT i (by omega)) h hx) (by omega) M e'
theorem cRead33 {N : Nat} (hN : 100 < N) {S : St} {u n : Nat} {T : Nat → Nat} (hu : u < 2) (hn : n ≤ 60) (hT : ∀ i, i < n → T i < 256) (hs : S.1 51 1 = nI n) (ht : ∀ i, i < n → S.1 52 i = nI (T i)) : ∀ (k i f : Nat) (s : St) (σ : PSt), CS S s u σ → J u σ i → i + k = n → k < f → ∃ s', FRd S s' ∧ (∀ j, rd u T k i σ = .inl j → f_X4_read_33 N f s 51 (2 + u) (nI i) = some (nI j, s')) ∧ (∀ M, rd u T k i σ = .inr M → f_X4_read_33 N f s 51 (2 + u) (nI i) = some (-1, s') ∧ s'.1 150 1 = nI M.length ∧ stk (s'.1 151) (M.map (enc2 u))) := by
  intro k
  induction k with
  | zero =>
    intro i f s σ h hJ h1 h2
    obtain ⟨f, rfl⟩ := fuel h2
    obtain ⟨M, O, dg, due⟩ := σ
    obtain ⟨j1, j2, j3, j4, j5, j6⟩ := hJ
    simp only at j1 j2 j3 j4 j5 j6
    have h' : CQ S s u M O (nI dg) (dI due) := h
    obtain ⟨s1, a1, a2⟩ := cClose hN (r := 1) (by decide) (by decide) h' (by omega) (fun x hx => (j4 x hx).2)
    obtain ⟨l1, l2⟩ := cls_len (r := 1) O M
    have hz : s.1 51 1 = nI n := by rw [h'.1 51 (by decide) (by decide) (by decide) (by decide) (by decide)]; exact hs
    have hz1 : s1.1 51 1 = nI n := by rw [a2.1 51 (by decide) (by decide) (by decide) (by decide) (by decide)]; exact hs
    have e0 : f_X4_read_33 N (f + 1) s 51 (2 + u) (nI i) = if dI due = 0 then (if nI (cls 1 O M).2.length ≤ 0 then some (-1, s1) else f_X4_read_84 N s1 51) else f_X4_read_84 N s1 51 := by
      rw [f_X4_read_33]
      unfold f_X5_size
      rw [hz, bnd_some, if_pos (nI_le (by omega) (by omega)), show f_X4_close N s 1 = _ from a1, bnd_some, a2.2.2.2.2.2.2.2, a2.2.2.2.1, bnd_some]
    have e84 : f_X4_read_84 N s1 51 = some (nI n, s1) := by
      unfold f_X4_read_84 f_X5_size
      rw [hz1, bnd_some]
    have er : rd u T 0 i (M, O, dg, due) = if due = true ∨ 0 < (cls 1 O M).2.length then .inl i else .inr (cls 1 O M).1 := rfl
    refine ⟨s1, a2.1, fun j e => ?_, fun M' e => ?_⟩
    · rw [er] at e
      by_cases c : due = true ∨ 0 < (cls 1 O M).2.length
      · rw [if_pos c] at e
        cases e
        rw [e0]
        rcases c with c | c
        · subst c
          rw [if_neg (by decide), e84, show n = i by omega]
        · rw [if_neg (nI_nle c (by omega)), e84, show n = i by omega]
          split <;> rfl
      · rw [if_neg c] at e; cases e
    · rw [er] at e
      by_cases c : due = true ∨ 0 < (cls 1 O M).2.length
      · rw [if_pos c] at e; cases e
      · rw [if_neg c] at e
        cases e
        have hd : due = false := by cases due; rfl; exact absurd (Or.inl rfl) c
        have hl : (cls 1 O M).2.length = 0 := by omega
        refine ⟨?_, a2.2.1, a2.2.2.1⟩
        rw [e0, hd, if_pos (show dI false = 0 from rfl), hl, if_pos (by decide)]
  | succ k ih =>
    intro i f s σ h hJ h1 h2
    obtain ⟨f, rfl⟩ := fuel h2
    have h' : CQ S s u σ.1 σ.2.1 (nI σ.2.2.1) (dI σ.2.2.2) := h
    have hr : RW s 51 n := ⟨by rw [h'.1 51 (by decide) (by decide) (by decide) (by decide) (by decide)]; exact hs, hn, by decide⟩
    have hat : f_X5_at s 51 (nI i) = some (nI (T i)) := by
      rw [p_at hr (by omega), show 51 + 1 = 52 from rfl, h'.1 52 (by decide) (by decide) (by decide) (by decide) (by decide), ht i (by omega)]
    have e0 : f_X4_read_33 N (f + 1) s 51 (2 + u) (nI i) = bnd2 (f_X4_takes N s (nI (T i)) (2 + u)) (fun a S => if a = 0 then some (nI i, S) else f_X4_read_33 N f S 51 (2 + u) (nI (i + 1))) := by
      rw [f_X4_read_33, p_size hr, bnd_some, if_neg (nI_ge (by omega) (by omega)), hat, bnd_some, nI_1]
    have er : rd u T (k + 1) i σ = match nxt u σ (T i) with | none => .inl i | some τ => rd u T k (i + 1) τ := rfl
    rcases cTakes hN hu h hJ (by omega) (hT i (by omega)) with ⟨n1, s', a1, a2⟩ | ⟨τ, n1, s', a1, a2⟩
    · refine ⟨s', a2, fun j e => ?_, fun M e => ?_⟩
      · rw [er, n1] at e
        cases e
        rw [e0, a1, bnd2_some, if_pos rfl]
      · rw [er, n1] at e; cases e
    · obtain ⟨s2, b1, b2, b3⟩ := ih (i + 1) f s' τ a2 (nxt_J hu (hT i (by omega)) hJ n1) (by omega) (by omega)
      refine ⟨s2, b1, fun j e => ?_, fun M e => ?_⟩
      · rw [er, n1] at e
        rw [e0, a1, bnd2_some, if_neg (by decide)]
        exact b2 j e
      · rw [er, n1] at e
        rw [e0, a1, bnd2_some, if_neg (by decide)]
        exact b3 M e
theorem cReadAll {N : Nat} (hN : 100 < N) {S : St} {u n : Nat} {T : Nat → Nat} (hu : u < 2) (hn : n ≤ 60) (hT : ∀ i, i < n → T i < 256) (hs : S.1 51 1 = nI n) (ht : ∀ i, i < n → S.1 52 i = nI (T i)) : ∃ s', FRd S s' ∧ (∀ j, go u T n 0 ([], [], 0, true) = .inl j → f_X4_read N S 51 (2 + u) = some (nI j, s')) ∧ (∀ M, go u T n 0 ([], [], 0, true) = .inr M → f_X4_read N S 51 (2 + u) = some (-1, s') ∧ s'.1 150 1 = nI M.length ∧ stk (s'.1 151) (M.map (enc2 u))) := by
  have h0 : CS S (pt (pt (pt (pt (pt S 150 1 0) 152 1 0) 149 2 0) 149 3 0) 149 4 1) u ([], [], 0, true) := by
    refine ⟨fun q a b c d e => by rw [pt_nek a, pt_nek a, pt_nek a, pt_nek d, pt_nek b], ?_, True.intro, ?_, True.intro, ?_, ?_, ?_⟩
    · rw [pt_nek (by decide), pt_nek (by decide), pt_nek (by decide), pt_nek (by decide), pt_at]; rfl
    · rw [pt_nek (by decide), pt_nek (by decide), pt_nek (by decide), pt_at]; rfl
    · rw [pt_nej (by decide), pt_nej (by decide), pt_at]; rfl
    · rw [pt_nej (by decide), pt_at]; rfl
    · rw [pt_at]; rfl
  have hJ : J u ([], [], 0, true) 0 := ⟨Nat.le_refl _, True.intro, rfl, fun b hb => absurd hb List.not_mem_nil, Nat.zero_le _, fun g => absurd g (Nat.lt_irrefl _)⟩
  obtain ⟨s', a1, a2, a3⟩ := cRead33 (N := N) hN hu hn hT hs ht n 0 N _ _ h0 hJ (by omega) (by omega)
  have e : f_X4_read N S 51 (2 + u) = f_X4_read_33 N N (pt (pt (pt (pt (pt S 150 1 0) 152 1 0) 149 2 0) 149 3 0) 149 4 1) 51 (2 + u) (nI 0) := by
    unfold f_X4_read
    rw [p_reset0 (n := 0) (by decide) (by omega), bnd_some, p_reset0 (n := 0) (by decide) (by omega), bnd_some]
    rfl
  refine ⟨s', a1, fun j g => ?_, fun M g => ?_⟩
  · rw [e]; exact a2 j g
  · rw [e]; exact a3 M g
