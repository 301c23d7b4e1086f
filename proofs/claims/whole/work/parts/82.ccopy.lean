/-! the copy, whole -/
theorem cCopy {S : St} {t1 t2 : Nat} {m : Nat → Int32} (h : RT S t1 m) (hW : WF m) (h1 : TP t1) (h2 : TP t2) (hne : t2 ≠ t1) (hn0 : S.1 (t2 + 32) 1 = nI 5) (hn1 : S.1 (t2 + 39) 1 = nI 5) : ∃ S', f_X9_copy S t2 t1 = some S' ∧ FrC t2 S S' ∧ RT S' t2 m := by
  have hs := h2.sep h1 hne
  obtain ⟨S1, a1, b1, c1, d1, e1⟩ := cpRow h hW h1 h2 hne (L := []) (fun k hk => absurd hk List.not_mem_nil) (k := 0) (by decide)
  have n0_1 : S1.1 (t2 + 32) 1 = nI 5 := by rw [e1 _ (by have := off_lt 0 (by decide); omega) (by have := off_lt 0 (by decide); omega)]; exact hn0
  have n1_1 : S1.1 (t2 + 39) 1 = nI 5 := by rw [e1 _ (by have := off_lt 0 (by decide); omega) (by have := off_lt 0 (by decide); omega)]; exact hn1
  obtain ⟨S2, a2, b2, c2, d2, e2⟩ := cpRow b1 hW h1 h2 hne d1 (k := 1) (by decide)
  have n0_2 : S2.1 (t2 + 32) 1 = nI 5 := by rw [e2 _ (by have := off_lt 1 (by decide); omega) (by have := off_lt 1 (by decide); omega)]; exact n0_1
  have n1_2 : S2.1 (t2 + 39) 1 = nI 5 := by rw [e2 _ (by have := off_lt 1 (by decide); omega) (by have := off_lt 1 (by decide); omega)]; exact n1_1
  obtain ⟨S3, a3, b3, c3, d3, e3⟩ := cpRow b2 hW h1 h2 hne d2 (k := 2) (by decide)
  have n0_3 : S3.1 (t2 + 32) 1 = nI 5 := by rw [e3 _ (by have := off_lt 2 (by decide); omega) (by have := off_lt 2 (by decide); omega)]; exact n0_2
  have n1_3 : S3.1 (t2 + 39) 1 = nI 5 := by rw [e3 _ (by have := off_lt 2 (by decide); omega) (by have := off_lt 2 (by decide); omega)]; exact n1_2
  obtain ⟨S4, a4, b4, c4, d4, e4⟩ := cpRow b3 hW h1 h2 hne d3 (k := 3) (by decide)
  have n0_4 : S4.1 (t2 + 32) 1 = nI 5 := by rw [e4 _ (by have := off_lt 3 (by decide); omega) (by have := off_lt 3 (by decide); omega)]; exact n0_3
  have n1_4 : S4.1 (t2 + 39) 1 = nI 5 := by rw [e4 _ (by have := off_lt 3 (by decide); omega) (by have := off_lt 3 (by decide); omega)]; exact n1_3
  obtain ⟨S5, a5, b5, c5, d5, e5⟩ := cpRow b4 hW h1 h2 hne d4 (k := 4) (by decide)
  have n0_5 : S5.1 (t2 + 32) 1 = nI 5 := by rw [e5 _ (by have := off_lt 4 (by decide); omega) (by have := off_lt 4 (by decide); omega)]; exact n0_4
  have n1_5 : S5.1 (t2 + 39) 1 = nI 5 := by rw [e5 _ (by have := off_lt 4 (by decide); omega) (by have := off_lt 4 (by decide); omega)]; exact n1_4
  obtain ⟨S6, a6, b6, c6, d6, e6⟩ := cpRow b5 hW h1 h2 hne d5 (k := 5) (by decide)
  have n0_6 : S6.1 (t2 + 32) 1 = nI 5 := by rw [e6 _ (by have := off_lt 5 (by decide); omega) (by have := off_lt 5 (by decide); omega)]; exact n0_5
  have n1_6 : S6.1 (t2 + 39) 1 = nI 5 := by rw [e6 _ (by have := off_lt 5 (by decide); omega) (by have := off_lt 5 (by decide); omega)]; exact n1_5
  obtain ⟨S7, a7, b7, c7, d7, e7⟩ := cpRow b6 hW h1 h2 hne d6 (k := 6) (by decide)
  have n0_7 : S7.1 (t2 + 32) 1 = nI 5 := by rw [e7 _ (by have := off_lt 6 (by decide); omega) (by have := off_lt 6 (by decide); omega)]; exact n0_6
  have n1_7 : S7.1 (t2 + 39) 1 = nI 5 := by rw [e7 _ (by have := off_lt 6 (by decide); omega) (by have := off_lt 6 (by decide); omega)]; exact n1_6
  obtain ⟨S8, a8, b8, c8, d8, e8⟩ := cpRow b7 hW h1 h2 hne d7 (k := 7) (by decide)
  have n0_8 : S8.1 (t2 + 32) 1 = nI 5 := by rw [e8 _ (by have := off_lt 7 (by decide); omega) (by have := off_lt 7 (by decide); omega)]; exact n0_7
  have n1_8 : S8.1 (t2 + 39) 1 = nI 5 := by rw [e8 _ (by have := off_lt 7 (by decide); omega) (by have := off_lt 7 (by decide); omega)]; exact n1_7
  obtain ⟨S9, a9, b9, c9, d9, e9⟩ := cpRow b8 hW h1 h2 hne d8 (k := 8) (by decide)
  have n0_9 : S9.1 (t2 + 32) 1 = nI 5 := by rw [e9 _ (by have := off_lt 8 (by decide); omega) (by have := off_lt 8 (by decide); omega)]; exact n0_8
  have n1_9 : S9.1 (t2 + 39) 1 = nI 5 := by rw [e9 _ (by have := off_lt 8 (by decide); omega) (by have := off_lt 8 (by decide); omega)]; exact n1_8
  obtain ⟨S10, a10, b10, c10, d10, e10⟩ := cpRow b9 hW h1 h2 hne d9 (k := 9) (by decide)
  have n0_10 : S10.1 (t2 + 32) 1 = nI 5 := by rw [e10 _ (by have := off_lt 9 (by decide); omega) (by have := off_lt 9 (by decide); omega)]; exact n0_9
  have n1_10 : S10.1 (t2 + 39) 1 = nI 5 := by rw [e10 _ (by have := off_lt 9 (by decide); omega) (by have := off_lt 9 (by decide); omega)]; exact n1_9
  obtain ⟨S11, a11, b11, c11, d11, e11⟩ := cpRow b10 hW h1 h2 hne d10 (k := 10) (by decide)
  have n0_11 : S11.1 (t2 + 32) 1 = nI 5 := by rw [e11 _ (by have := off_lt 10 (by decide); omega) (by have := off_lt 10 (by decide); omega)]; exact n0_10
  have n1_11 : S11.1 (t2 + 39) 1 = nI 5 := by rw [e11 _ (by have := off_lt 10 (by decide); omega) (by have := off_lt 10 (by decide); omega)]; exact n1_10
  obtain ⟨S12, a12, b12, c12, d12, e12⟩ := cpRow b11 hW h1 h2 hne d11 (k := 11) (by decide)
  have n0_12 : S12.1 (t2 + 32) 1 = nI 5 := by rw [e12 _ (by have := off_lt 11 (by decide); omega) (by have := off_lt 11 (by decide); omega)]; exact n0_11
  have n1_12 : S12.1 (t2 + 39) 1 = nI 5 := by rw [e12 _ (by have := off_lt 11 (by decide); omega) (by have := off_lt 11 (by decide); omega)]; exact n1_11
  obtain ⟨S13, a13, b13, c13, d13, e13⟩ := cpRow b12 hW h1 h2 hne d12 (k := 12) (by decide)
  have n0_13 : S13.1 (t2 + 32) 1 = nI 5 := by rw [e13 _ (by have := off_lt 12 (by decide); omega) (by have := off_lt 12 (by decide); omega)]; exact n0_12
  have n1_13 : S13.1 (t2 + 39) 1 = nI 5 := by rw [e13 _ (by have := off_lt 12 (by decide); omega) (by have := off_lt 12 (by decide); omega)]; exact n1_12
  obtain ⟨S14, a14, b14, c14, d14, x0_14, e14⟩ := cpTxt b13 hW h1 h2 hne d13 (u := 0) (by decide) n0_13
  have n0_14 : S14.1 (t2 + 32) 1 = nI 5 := by rw [e14 _ (by omega) (by omega)]; exact n0_13
  have n1_14 : S14.1 (t2 + 39) 1 = nI 5 := by rw [e14 _ (by omega) (by omega)]; exact n1_13
  obtain ⟨S15, a15, b15, c15, d15, x1_15, e15⟩ := cpTxt b14 hW h1 h2 hne d14 (u := 1) (by decide) n1_14
  have n0_15 : S15.1 (t2 + 32) 1 = nI 5 := by rw [e15 _ (by omega) (by omega)]; exact n0_14
  have n1_15 : S15.1 (t2 + 39) 1 = nI 5 := by rw [e15 _ (by omega) (by omega)]; exact n1_14
  obtain ⟨S16, a16, b16, c16, d16, e16⟩ := cpRow b15 hW h1 h2 hne d15 (k := 13) (by decide)
  have n0_16 : S16.1 (t2 + 32) 1 = nI 5 := by rw [e16 _ (by have := off_lt 13 (by decide); omega) (by have := off_lt 13 (by decide); omega)]; exact n0_15
  have n1_16 : S16.1 (t2 + 39) 1 = nI 5 := by rw [e16 _ (by have := off_lt 13 (by decide); omega) (by have := off_lt 13 (by decide); omega)]; exact n1_15
  obtain ⟨S17, a17, b17, c17, d17, e17⟩ := cpRow b16 hW h1 h2 hne d16 (k := 14) (by decide)
  have n0_17 : S17.1 (t2 + 32) 1 = nI 5 := by rw [e17 _ (by have := off_lt 14 (by decide); omega) (by have := off_lt 14 (by decide); omega)]; exact n0_16
  have n1_17 : S17.1 (t2 + 39) 1 = nI 5 := by rw [e17 _ (by have := off_lt 14 (by decide); omega) (by have := off_lt 14 (by decide); omega)]; exact n1_16
  have hfr : FrC t2 S S17 := ((((((((((((((((c1.trans c2).trans c3).trans c4).trans c5).trans c6).trans c7).trans c8).trans c9).trans c10).trans c11).trans c12).trans c13).trans c14).trans c15).trans c16).trans c17)
  have tx : ∀ u, u < 2 → ∀ s s' : St, txtR s t2 u m → (∀ q, t2 + 30 + 7 * u ≤ q → q ≤ t2 + 32 + 7 * u → s'.1 q = s.1 q) → txtR s' t2 u m := fun u hu s s' hT hq => by
    refine ⟨by rw [hq _ (by omega) (by omega)]; exact hT.1, fun k hk => ?_, by rw [hq _ (by omega) (by omega)]; exact hT.2.2⟩
    rw [hq _ (by omega) (by omega)]; exact hT.2.1 k hk
  have o13 : off 13 = 43 := rfl
  have o14 : off 14 = 45 := rfl
  have T0 : txtR S17 t2 0 m := tx 0 (by decide) S14 S17 x0_14 (fun q a b => by rw [e17 q (by omega) (by omega), e16 q (by omega) (by omega), e15 q (by omega) (by omega)])
  have T1 : txtR S17 t2 1 m := tx 1 (by decide) S15 S17 x1_15 (fun q a b => by rw [e17 q (by omega) (by omega), e16 q (by omega) (by omega)])
  have f1 : ∀ (s : St) (j : Nat) (v : Int32), (∀ q, q ≠ t2 → (pt s t2 j v).1 q = s.1 q) := fun s j v q hq => pt_nek hq
  have g11 := b17.2.2.2.1
  have g12 := b17.2.2.2.2.1
  have g13 := b17.2.2.2.2.2.1
  have g14 := b17.2.2.2.2.2.2
  refine ⟨pt (pt (pt (pt S17 t2 11 (m 3)) t2 12 (m 4)) t2 13 (m 5)) t2 14 (m 8), ?_, (((hfr.pt (Or.inl (by omega))).pt (Or.inl (by omega))).pt (Or.inl (by omega))).pt (Or.inl (by omega)), fun k hk => ?_, tx 0 (by decide) S17 _ T0 (fun q a b => by rw [pt_nek (by omega), pt_nek (by omega), pt_nek (by omega), pt_nek (by omega)]), tx 1 (by decide) S17 _ T1 (fun q a b => by rw [pt_nek (by omega), pt_nek (by omega), pt_nek (by omega), pt_nek (by omega)]), by rw [pt_nej (by decide), pt_nej (by decide), pt_nej (by decide), pt_at], by rw [pt_nej (by decide), pt_nej (by decide), pt_at], by rw [pt_nej (by decide), pt_at], pt_at⟩
  · unfold f_X9_copy f_X3_copy f_X8_copy
    have r1 : f_X5_copy S (t2 + 1 + 1) (t1 + 1 + 1) = some S1 := a1
    have r2 : f_X5_copy S1 (t2 + 1 + 3) (t1 + 1 + 3) = some S2 := a2
    have r3 : f_X5_copy S2 (t2 + 1 + 5) (t1 + 1 + 5) = some S3 := a3
    have r4 : f_X5_copy S3 (t2 + 1 + 7) (t1 + 1 + 7) = some S4 := a4
    have r5 : f_X5_copy S4 (t2 + 10 + 1) (t1 + 10 + 1) = some S5 := a5
    have r6 : f_X5_copy S5 (t2 + 10 + 3) (t1 + 10 + 3) = some S6 := a6
    have r7 : f_X5_copy S6 (t2 + 10 + 5) (t1 + 10 + 5) = some S7 := a7
    have r8 : f_X5_copy S7 (t2 + 10 + 7) (t1 + 10 + 7) = some S8 := a8
    have r9 : f_X5_copy S8 (t2 + 10 + 9) (t1 + 10 + 9) = some S9 := a9
    have r10 : f_X5_copy S9 (t2 + 21) (t1 + 21) = some S10 := a10
    have r11 : f_X5_copy S10 (t2 + 23) (t1 + 23) = some S11 := a11
    have r12 : f_X5_copy S11 (t2 + 25) (t1 + 25) = some S12 := a12
    have r13 : f_X5_copy S12 (t2 + 27) (t1 + 27) = some S13 := a13
    have r14 : f_X7_hold S13 (t2 + 29) (t1 + 30) = some S14 := a14
    have r15 : f_X7_hold S14 (t2 + 36) (t1 + 37) = some S15 := a15
    have r16 : f_X5_copy S15 (t2 + 43) (t1 + 43) = some S16 := a16
    have r17 : f_X5_copy S16 (t2 + 45) (t1 + 45) = some S17 := a17
    rw [r1, bnd_some, r2, bnd_some, r3, bnd_some, r4, bnd_some, bnd_some, r5, bnd_some, r6, bnd_some, r7, bnd_some, r8, bnd_some, r9, bnd_some, bnd_some, r10, bnd_some, r11, bnd_some, r12, bnd_some, r13, bnd_some, r14, bnd_some, r15, bnd_some, r16, bnd_some, r17, bnd_some]
    have hq : ∀ (s : St) (j : Nat) (v : Int32), (pt s t2 j v).1 t1 = s.1 t1 := fun s j v => pt_nek (fun e => hne e.symm)
    simp only [hq, g11, g12, g13, g14]
  · have ho := off_lt k hk
    obtain ⟨_, a2, a3⟩ := d17 k (by
      have e : k = 0 ∨ k = 1 ∨ k = 2 ∨ k = 3 ∨ k = 4 ∨ k = 5 ∨ k = 6 ∨ k = 7 ∨ k = 8 ∨ k = 9 ∨ k = 10 ∨ k = 11 ∨ k = 12 ∨ k = 13 ∨ k = 14 := by omega
      rcases e with rfl | rfl | rfl | rfl | rfl | rfl | rfl | rfl | rfl | rfl | rfl | rfl | rfl | rfl | rfl <;> decide)
    refine ⟨by rw [pt_nek (by omega), pt_nek (by omega), pt_nek (by omega), pt_nek (by omega)]; exact a2, fun i hi => ?_⟩
    rw [pt_nek (by omega), pt_nek (by omega), pt_nek (by omega), pt_nek (by omega)]
    exact a3 i hi
