/-! years, image, restore, untell, named, mended, best, right -/
theorem K_years {N : Nat} (hN : 1000 < N) {S : St} (h : IV S) (v1 : Int32) : CC S (fun s => f_X11_years N s v1) (fun s => f_X12_years N s v1) := by
  have hT := h.1.1
  have hW := h.1.2.1
  obtain ⟨y, hy, ey⟩ := h.1.2.2
  by_cases c : v1 < 1
  · refine CC.err h (k := 1) (by decide) (φ := fun a => a) ?_ ?_
    · show f_X11_years N S v1 = _
      unfold f_X11_years
      rw [if_pos c]; rfl
    · show f_X12_years N (E1 S 1) v1 = _
      unfold f_X12_years f_X12_in
      rw [if_pos c, bnd_some, if_pos rfl]; rfl
  · obtain ⟨j, hj, rfl⟩ := nI_of (x := v1) (fun e => c (by rw [Int32.lt_iff_toInt_lt] at e ⊢; rw [show (0 : Int32).toInt = 0 from by decide] at e; rw [show (1 : Int32).toInt = 1 from by decide]; omega))
    have hj1 : 1 ≤ j := by
      rw [k1, nI_ltI hj (by decide)] at c; omega
    by_cases d : j ≤ 40
    · have ein : ∀ s, f_X12_in s (nI j) 1 40 = some 1 := fun s => by
        unfold f_X12_in
        rw [if_neg c, k40, if_neg (nI_nlt d (by decide))]
      by_cases g : y + j ≤ 9999
      · obtain ⟨S1, a1, b1, c1⟩ := cGo (N := N) (by omega) (S := S) (Or.inl rfl) ⟨FrC.refl, hT⟩ hW (n := j) (by omega) (by omega)
        have e1 : S1.1 173 = S.1 173 := b1.1 173 (Or.inr (by decide)) (by decide)
        obtain ⟨S2, a2, b2⟩ := mGo (N := N) (by omega) (S := S1) (S0 := S1) (n := j) ⟨fun _ _ _ _ => rfl, rfl, e1⟩ hW (by omega) (by omega)
        refine ⟨lp (fun _ => yrS) j 0 (S.1 173) 4, S1, S2, ?_, fun q hq => b1.1 q (Or.inr (by omega)) (by omega), ?_, h.town (fun q x1 x2 x3 x4 x5 x6 x7 x8 => by rw [b2.1 q x3 x6 x7, b1.1 q (by omega) (by omega)]) ⟨?_, ?_, ?_⟩⟩
        · show f_X11_years N S (nI j) = _
          unfold f_X11_years
          rw [if_neg c, k40, if_pos (nI_le d (by decide)), hT.2.2.2.1, ey, k9999, nI_sub (by omega), if_pos (nI_le (by omega) (by omega)), a1, bnd_some, b1.2.2.2.2.2.1]
        · show f_X12_years N S1 (nI j) = _
          unfold f_X12_years
          rw [ein, bnd_some, if_neg (by decide), e1, ey, nI_add, k9999, if_pos (nI_le g (by decide)), a2, bnd_some, b2.2.2]
        · rw [b2.2.2]
          exact b1.2.fr (fun q x1 x2 => b2.1 q (by omega) (by omega) (by omega))
        · rw [b2.2.2]; exact c1.1
        · rw [b2.2.2]; exact ⟨y + j, g, (go_keep hW).1 y ey⟩
      · refine CC.err h (k := 3) (by decide) (φ := fun a => a) ?_ ?_
        · show f_X11_years N S (nI j) = _
          unfold f_X11_years
          rw [if_neg c, k40, if_pos (nI_le d (by decide)), hT.2.2.2.1, ey, k9999, nI_sub (by omega), if_neg (nI_ge (by omega) (by omega))]; rfl
        · show f_X12_years N (E1 S 3) (nI j) = _
          unfold f_X12_years
          rw [ein, bnd_some, if_neg (by decide), E1_nek (by decide), ey, nI_add, k9999, if_neg (nI_ge (by omega) (by omega))]; rfl
    · refine CC.err h (k := 1) (by decide) (φ := fun a => a) ?_ ?_
      · show f_X11_years N S (nI j) = _
        unfold f_X11_years
        rw [if_neg c, k40, if_neg (nI_ge (by omega) hj)]; rfl
      · show f_X12_years N (E1 S 1) (nI j) = _
        unfold f_X12_years f_X12_in
        rw [if_neg c, k40, if_pos (nI_lt (by omega) hj), bnd_some, if_pos rfl]; rfl
theorem K_image {N : Nat} (hN : 1000 < N) {S : St} (h : IV S) : CC S (fun s => f_X11_image s) (fun s => f_X12_image N s) := by
  have hT := h.1.1
  have hW := h.1.2.1
  obtain ⟨S1, a1, b1, c1⟩ := cCopy hT hW (Or.inl rfl) (Or.inr (Or.inr rfl)) (by decide) h.2.2.2.2.2.2.2.1 h.2.2.2.2.2.2.2.2
  have f1 : ∀ q, (0 < q ∧ 8 ≤ q) → ¬ (102 ≤ q ∧ q < 149) → (pt S1 0 8 (S1.1 0 8 + 1)).1 q = S.1 q := fun q x1 x2 => by rw [pt_nek (by omega)]; exact b1 q (Or.inr x1.2) (by omega)
  obtain ⟨S2, a2, b2, d2, e2⟩ := mLay hN (S := pt S1 0 8 (S1.1 0 8 + 1)) (v0 := 173) (v1 := 174) rfl rfl (by decide)
  have f2 : ∀ q, 8 ≤ q → ¬ (102 ≤ q ∧ q < 149) → q ≠ 174 → q ≠ 172 → (pt S2 172 3 (S2.1 172 3 + 1)).1 q = S.1 q := fun q x1 x2 x3 x4 => by rw [pt_nek x4, b2 q x3, f1 q (by omega) x2]
  have g0 : S1.1 0 8 = S.1 0 8 := by rw [b1 0 (Or.inl rfl) (by decide)]
  have g3 : S2.1 172 3 = S.1 172 3 := by rw [b2 172 (by decide), f1 172 (by decide) (by decide)]
  have h173 : (pt S2 172 3 (S2.1 172 3 + 1)).1 173 = S.1 173 := f2 173 (by decide) (by decide) (by decide) (by decide)
  have e174 : ∀ x, x < 516 → (pt S2 172 3 (S2.1 172 3 + 1)).1 174 x = S.1 173 x := fun x hx => by rw [pt_nek (by decide), e2 x hx, f1 173 (by decide) (by decide)]
  have r102 : RT (pt S2 172 3 (S2.1 172 3 + 1)) 102 (S.1 173) := c1.fr (fun q x1 x2 => by rw [pt_nek (by omega), b2 q (by omega), pt_nek (by omega)])
  obtain ⟨⟨_, _, q1⟩, q2, q3, q4, q5, q6⟩ := h
  refine ⟨S.1 0 8 + 1, pt S1 0 8 (S1.1 0 8 + 1), pt S2 172 3 (S2.1 172 3 + 1), ?_, fun q hq => f1 q (by omega) (by omega), ?_, ⟨?_, ?_, ?_⟩, ⟨?_, Or.inr ⟨?_, ?_, ?_⟩⟩, q3.of (fun q hq => f2 q (by omega) (by omega) (by omega) (by omega)), q4.of (fun q hq => f2 q (by omega) (by omega) (by omega) (by omega)) ?_, fun i hi => (q5 i hi).of (fun q hq => f2 q (by omega) (by omega) (by omega) (by omega)) (by rw [f2 181 (by decide) (by decide) (by decide) (by decide)]) (by rw [f2 182 (by decide) (by decide) (by decide) (by decide)]) (fun j _ => by rw [f2 183 (by decide) (by decide) (by decide) (by decide)]), ?_, ?_, r102.2.1.2.2, r102.2.2.1.2.2⟩
  · show f_X11_image S = _
    unfold f_X11_image
    rw [a1, bnd_some, pt_at, g0]
  · show f_X12_image N _ = _
    unfold f_X12_image
    rw [a2, bnd_some, pt_at, g3, q2.1]
  · rw [h173]; exact hT.fr (fun q x1 x2 => f2 q (by omega) (by omega) (by omega) (by omega))
  · rw [h173]; exact hW
  · rw [h173]; exact q1
  · rw [pt_at, g3, pt_nek (by decide), b2 0 (by decide), pt_at, g0, q2.1]
  · exact r102.congr hW e174
  · exact hW.congr e174
  · unfold YR; rw [e174 3 (by decide)]; exact q1
  · rw [pt_nej (by decide), b2 172 (by decide), f1 172 (by decide) (by decide)]
  · rw [f2 87 (by decide) (by decide) (by decide) (by decide)]; exact q6.1
  · rw [f2 94 (by decide) (by decide) (by decide) (by decide)]; exact q6.2.1
theorem K_restore {N : Nat} (hN : 1000 < N) {S : St} (h : IV S) : CC S (fun s => f_X11_restore s) (fun s => f_X12_restore N s) := by
  by_cases c : S.1 0 8 = 0
  · refine CC.err h (k := 2) (by decide) (φ := fun a => a) ?_ ?_
    · show f_X11_restore S = _
      unfold f_X11_restore
      rw [if_pos c]; rfl
    · show f_X12_restore N (E1 S 2) = _
      unfold f_X12_restore
      rw [E1_nek (by decide), if_pos (h.2.1.1.symm.trans c)]; rfl
  · rcases h.2.1.2 with e | ⟨k1', k2', k3'⟩
    · exact absurd e c
    · obtain ⟨S1, a1, b1, c1⟩ := cCopy k1' k2' (Or.inr (Or.inr rfl)) (Or.inl rfl) (by decide) h.1.1.2.1.2.2 h.1.1.2.2.1.2.2
      obtain ⟨S2, a2, b2, d2, e2⟩ := mLay hN (S := S1) (v0 := 174) (v1 := 173) rfl rfl (by decide)
      have g174 : S1.1 174 = S.1 174 := b1 174 (Or.inr (by decide)) (by decide)
      have g172 : S1.1 172 = S.1 172 := b1 172 (Or.inr (by decide)) (by decide)
      have e173 : ∀ x, x < 516 → S2.1 173 x = S.1 174 x := fun x hx => by rw [e2 x hx, g174]
      refine ⟨S.1 174 3, S1, S2, ?_, fun q hq => b1 q (Or.inr (by omega)) (by omega), ?_, h.town (fun q x1 x2 x3 x4 x5 x6 x7 x8 => by rw [b2 q x3, b1 q (by omega) (by omega)]) ⟨?_, ?_, ?_⟩⟩
      · show f_X11_restore S = _
        unfold f_X11_restore
        rw [if_neg c, a1, bnd_some, c1.2.2.2.1]
      · show f_X12_restore N S1 = _
        unfold f_X12_restore
        rw [g172, if_neg (fun e => c (h.2.1.1.trans e)), a2, bnd_some, e173 3 (by decide)]
      · exact (c1.fr (S' := S2) (fun q x1 x2 => b2 q (by omega))).congr k2' e173
      · exact k2'.congr e173
      · unfold YR; rw [e173 3 (by decide)]; exact k3'
theorem K_untell {N : Nat} (hN : 100 < N) {S : St} (h : IV S) (v1 : Int32) : CC S (fun s => f_X11_untell N s v1) (fun s => f_X12_untell s v1) := by
  have hT := h.1.1
  have hW := h.1.2.1
  refine CC.gw 1 h rfl (by decide) (fun _ => rfl) (fun _ => rfl) (fun u hu e => ?_)
  subst e
  have hu2 : u < 2 := by omega
  have hto : f_X11_textOf S (nI u) = some (37 + 7 * u) ∧ sh (37 + 7 * u) = 7 := by
    rcases (show u = 0 ∨ u = 1 by omega) with rfl | rfl
    · exact ⟨rfl, by decide⟩
    · exact ⟨rfl, by decide⟩
  have hst : f_X7_stands S (37 + 7 * u) = some (if w (S.1 173) (tb u) = 0 then 0 else 1) := cStands (t := 8) hT hW hu2
  have hln : ln (37 + 7 * u + 1 + 1) < 1000 := by rcases (show u = 0 ∨ u = 1 by omega) with rfl | rfl <;> decide
  have hfo : f_X7_forget N S (37 + 7 * u) = some (pt S (38 + 7 * u) 1 0) := by
    unfold f_X7_forget
    rw [p_reset0 (n := 0) hln (by omega), bnd_some, show 37 + 7 * u + 1 = 38 + 7 * u by omega]
  have htb : tb u < 308 := by unfold tb; omega
  have hb : (182 : Int32) + 125 * nI u = nI (tb u) := by rw [k182, k125, pk_mul, nI_add]; rfl
  have hs : (pt S (38 + 7 * u) 1 0).1 173 = S.1 173 := pt_nek (by omega)
  have e173 : (pt (pt S (38 + 7 * u) 1 0) 173 (tb u) 0).1 173 = upd (S.1 173) (tb u) 0 := by rw [pt_same, hs]
  have hz : upd (S.1 173) (tb u) 0 (tb u) = 0 := upd_same
  have wz : w (upd (S.1 173) (tb u) 0) (tb u) = 0 := by unfold w; rw [hz]; rfl
  have fin : ∀ r : Int32, f_X12_untell_28 (pt S (38 + 7 * u) 1 0) (nI u) r = some (r, pt (pt S (38 + 7 * u) 1 0) 173 (tb u) 0) := fun r => by
    unfold f_X12_untell_28
    rw [hb]
    exact mPut rfl (by omega)
  refine ⟨if w (S.1 173) (tb u) = 0 then 0 else 1, pt S (38 + 7 * u) 1 0, pt (pt S (38 + 7 * u) 1 0) 173 (tb u) 0, ?_, fun q hq => pt_nek (by omega), ?_, h.town (fun q x1 x2 x3 x4 x5 x6 x7 x8 => by rw [pt_nek x3, pt_nek (by omega)]) ⟨?_, ?_, ?_⟩⟩
  · (try dsimp only)
    rw [hto.1, bnd_some, if_pos hto.2, hst, bnd_some, bnd_some, if_pos hto.2, hfo, bnd_some]
    by_cases c : w (S.1 173) (tb u) = 0
    · rw [if_pos c, if_pos rfl]
    · rw [if_neg c, if_neg (by decide)]
  · (try dsimp only)
    rw [mStands hs hW hu2, bnd_some]
    by_cases c : w (S.1 173) (tb u) = 0
    · rw [if_pos c, if_pos rfl, fin]
    · rw [if_neg c, if_neg (by decide), fin]
  · rw [e173]
    have hnm : S.1 (8 + 32 + 7 * u) 1 = nI 5 := by rcases (show u = 0 ∨ u = 1 by omega) with rfl | rfl; exact hT.2.1.2.2; exact hT.2.2.1.2.2
    refine hT.text hW hu2 ⟨?_, fun k hk => ?_, ?_⟩ (fun q x1 x2 x3 x4 => by rw [pt_nek (by omega), pt_nek (by omega)]) (fun x hx x2 => upd_ne (by omega))
    · rw [pt_nek (by omega), show 8 + 30 + 7 * u = 38 + 7 * u by omega, pt_at, wz]; rfl
    · rw [wz] at hk; exact absurd hk (Nat.not_lt_zero _)
    · rw [pt_nek (by omega), pt_nek (by omega)]; exact hnm
  · rw [e173]
    refine hW.text ?_ ?_ (fun x hx => upd_ne (by unfold tb; omega))
    · rcases (show u = 0 ∨ u = 1 by omega) with rfl | rfl
      · exact TX.none hz
      · exact hW.2.2.2.2.1.set (Or.inr (by decide))
    · rcases (show u = 0 ∨ u = 1 by omega) with rfl | rfl
      · exact hW.2.2.2.2.2.set (Or.inl (by decide))
      · exact TX.none hz
  · rw [e173]; unfold YR; rw [upd_ne (by unfold tb; omega)]; exact h.1.2.2
theorem K_named {N : Nat} (hN : 100 < N) {S : St} (h : IV S) (v1 : Int32) : CC S (fun s => f_X11_named N s v1) (fun s => f_X12_named N s v1) := by
  refine CC.gt h (fun _ => rfl) (fun _ => rfl) (fun i hi e => ?_)
  subst e
  obtain ⟨S1, a1, b1, c1⟩ := cName hN h.1.1 h.1.2.1 (Or.inl rfl) hi
  have e1 : S1.1 173 = S.1 173 := b1 173 (Or.inr (by decide)) (by decide)
  obtain ⟨S2, a2, b2, _⟩ := mName hN e1 h.1.2.1 hi
  have e2 : S2.1 173 = S.1 173 := by rw [b2 173 (by decide) (by decide), e1]
  refine ⟨hld (raw (S.1 173) i), S1, S2, ?_, fun q hq => b1 q (Or.inr (by omega)) (by omega), ?_, h.town (fun q x1 x2 x3 x4 x5 x6 x7 x8 => by rw [b2 q x6 x7, b1 q (by omega) (by omega)]) ⟨?_, ?_, ?_⟩⟩
  · (try dsimp only)
    rw [a1, bnd2_some]
  · (try dsimp only)
    rw [a2, bnd2_some]
  · rw [e2]; exact c1.fr (fun q x1 x2 => b2 q (by omega) (by omega))
  · rw [e2]; exact h.1.2.1
  · rw [e2]; exact h.1.2.2
theorem K_mended {N : Nat} (hN : 100 < N) {S : St} (h : IV S) (v1 : Int32) : CC S (fun s => f_X11_mended N s v1) (fun s => f_X12_mended N s v1) := by
  refine CC.gt h (fun _ => rfl) (fun _ => rfl) (fun i hi e => ?_)
  subst e
  obtain ⟨S1, a1, b1, c1⟩ := cMend hN h.1.1 h.1.2.1 (Or.inl rfl) hi
  have e1 : S1.1 173 = S.1 173 := b1 173 (Or.inr (by decide)) (by decide)
  obtain ⟨S2, a2, b2, _⟩ := mMend hN e1 h.1.2.1 hi
  have e2 : S2.1 173 = S.1 173 := by rw [b2 173 (by decide) (by decide), e1]
  refine ⟨if isMd (S.1 173) i = 0 then 0 else 1, S1, S2, ?_, fun q hq => b1 q (Or.inr (by omega)) (by omega), ?_, h.town (fun q x1 x2 x3 x4 x5 x6 x7 x8 => by rw [b2 q x6 x7, b1 q (by omega) (by omega)]) ⟨?_, ?_, ?_⟩⟩
  · (try dsimp only)
    rw [a1, bnd2_some]
    split <;> rfl
  · (try dsimp only)
    rw [a2, bnd2_some]
    split <;> rfl
  · rw [e2]; exact c1.fr (fun q x1 x2 => b2 q (by omega) (by omega))
  · rw [e2]; exact h.1.2.1
  · rw [e2]; exact h.1.2.2
/-- the market has looked: nothing else has changed -/
theorem IV.look {S S1 : St} (h : IV S) (b : PF S S1) : IV S1 := by
  have e1 : S1.1 173 = S.1 173 := b 173 (Or.inr (by decide))
  refine h.town (fun q x1 x2 x3 x4 x5 x6 x7 x8 => b q (by omega)) ⟨?_, ?_, ?_⟩
  · rw [e1]; exact h.1.1.fr (fun q x1 x2 => b q (by omega))
  · rw [e1]; exact h.1.2.1
  · rw [e1]; exact h.1.2.2
theorem fee_in {m : Nat → Int32} (hW : WF m) : m 10 = nI (w m 10) ∧ w m 10 < 100 := hW.ty (x := 10) (n := 100) rfl (by decide)
theorem K_best {N : Nat} (hN : 100 < N) {S : St} (h : IV S) (v1 : Int32) : CC S (fun s => f_X11_best N s v1) (fun s => f_X12_best N s v1) := by
  have hW := h.1.2.1
  have hi2 := hW.nt.2
  refine CC.gt h (fun _ => rfl) (fun _ => rfl) (fun i hi e => ?_)
  subst e
  have ho := own_lt hW hi
  have hf := fee_in hW
  obtain ⟨S1, a1, b1, c1, d1⟩ := cLook hN h.1.1 hW (Or.inl rfl) hi
  have h1 := h.look b1
  have e1 : S1.1 173 = S.1 173 := b1 173 (Or.inr (by decide))
  have r1 : f_X5_at S1 35 0 = some (S.1 173 10) := by
    have := cRule h1.1.1 h1.1.2.1 (Or.inl rfl) (j := 0) (by decide)
    rw [e1] at this
    exact this
  refine ⟨bst (S.1 173) (own (S.1 173) i) i (nI (w (S.1 173) 10)), S1, S1, ?_, fun q hq => b1 q (Or.inr (by omega)), ?_, h1⟩
  · (try dsimp only)
    rw [a1, bnd_some, r1, bnd_some, hf.1, cBestP hN hW ho.1 (by omega) hf.2 c1 d1, bnd_some]
  · (try dsimp only)
    unfold f_X12_bestOf
    rw [e1, hf.1, mBest hN e1 hW hi hf.2, bnd_some, bnd_some]
def rgt (m : Nat → Int32) (i : Nat) : Nat → Nat → Option Nat
  | 0, _ => none
  | k + 1, t => if bst m (own m i) i (nI t) = nI (val m (own m i) i) then some t else rgt m i k (t + 1)
theorem rgt_lt {m : Nat → Int32} {i : Nat} : ∀ (k t r : Nat), rgt m i k t = some r → r < t + k := by
  intro k
  induction k with
  | zero => intro t r h; cases h
  | succ k ih =>
    intro t r h
    unfold rgt at h
    split at h
    · cases h; omega
    · have := ih _ _ h; omega
theorem cRight {N : Nat} (hN : 100 < N) {s : St} {m : Nat → Int32} (hW : WF m) {i : Nat} (hi : i < w m 1) (hK : MK s m (own m i) i (w m 0 - 1)) (hw : s.2 1 = whl m (own m i)) : ∀ (k t f : Nat), t + k = 100 → k < f → f_X11_right_28 N f s (nI t) = match rgt m i k t with | some r => some (nI r, s) | none => bnd2 (f_X11_fail s 2) (fun a s => some (a, s)) := by
  have ho := own_lt hW hi
  have hi2 := hW.nt.2
  intro k
  induction k with
  | zero =>
    intro t f h1 h2
    obtain ⟨f, rfl⟩ := fuel h2
    have : t = 100 := by omega
    subst this
    rw [f_X11_right_28, if_pos (show (99 : Int32) < nI 100 by decide)]
    rfl
  | succ k ih =>
    intro t f h1 h2
    obtain ⟨f, rfl⟩ := fuel h2
    rw [f_X11_right_28, k99, if_neg (nI_nlt (by omega) (by decide)), cBestP hN hW ho.1 (by omega) (by omega) hK hw, bnd_some, hK.1, nI_1, ih (t + 1) f (by omega) (by omega)]
    have er : rgt m i (k + 1) t = if bst m (own m i) i (nI t) = nI (val m (own m i) i) then some t else rgt m i k (t + 1) := rfl
    rw [er]
    by_cases c : bst m (own m i) i (nI t) = nI (val m (own m i) i)
    · rw [if_pos c, if_pos c]
    · rw [if_neg c, if_neg c]
theorem mRight {N : Nat} (hN : 100 < N) {s : St} {m : Nat → Int32} (hM : s.1 173 = m) (hW : WF m) {i : Nat} (hi : i < w m 1) : ∀ (k t f : Nat), t + k = 100 → k < f → f_X12_right_16 N f s (nI i) (nI t) = match rgt m i k t with | some r => some (nI r, s) | none => bnd2 (f_X12_error s 2) (fun a s => some (a, s)) := by
  have ho := own_lt hW hi
  have hi2 := hW.nt.2
  intro k
  induction k with
  | zero =>
    intro t f h1 h2
    obtain ⟨f, rfl⟩ := fuel h2
    have : t = 100 := by omega
    subst this
    rw [f_X12_right_16, if_pos (show (99 : Int32) < nI 100 by decide)]
    rfl
  | succ k ih =>
    intro t f h1 h2
    obtain ⟨f, rfl⟩ := fuel h2
    rw [f_X12_right_16, k99, if_neg (nI_nlt (by omega) (by decide)), mBest hN hM hW hi (by omega), bnd_some, mOwnV hM hW (by omega), bnd_some, mVal hM hW ho.2 (by omega), bnd_some, nI_1, ih (t + 1) f (by omega) (by omega)]
    have er : rgt m i (k + 1) t = if bst m (own m i) i (nI t) = nI (val m (own m i) i) then some t else rgt m i k (t + 1) := rfl
    rw [er]
    by_cases c : bst m (own m i) i (nI t) = nI (val m (own m i) i)
    · rw [if_pos c, if_pos c]
    · rw [if_neg c, if_neg c]
theorem K_right {N : Nat} (hN : 100 < N) {S : St} (h : IV S) (v1 : Int32) : CC S (fun s => f_X11_right N s v1) (fun s => f_X12_right N s v1) := by
  have hW := h.1.2.1
  refine CC.gt h (fun _ => rfl) (fun _ => rfl) (fun i hi e => ?_)
  subst e
  obtain ⟨S1, a1, b1, c1, d1⟩ := cLook hN h.1.1 hW (Or.inl rfl) hi
  have h1 := h.look b1
  have e1 : S1.1 173 = S.1 173 := b1 173 (Or.inr (by decide))
  have g1 := cRight hN hW hi c1 d1 100 0 N (by omega) hN
  cases hr : rgt (S.1 173) i 100 0 with
  | some r =>
    rw [hr] at g1
    refine ⟨nI r, S1, S1, ?_, fun q hq => b1 q (Or.inr (by omega)), ?_, h1⟩
    · (try dsimp only)
      rw [a1, bnd_some]; exact g1
    · (try dsimp only)
      have := mRight hN (s := S1) e1 hW hi 100 0 N (by omega) hN
      rw [hr] at this
      exact this
  | none =>
    rw [hr] at g1
    refine ⟨-1000000000 - nI 2, E1 S1 2, E2 (E1 S1 2) 2, ?_, fun q hq => by rw [E1_nek (by omega)]; exact b1 q (Or.inr (by omega)), ?_, h1.err⟩
    · (try dsimp only)
      rw [a1, bnd_some]
      refine Eq.trans g1 ?_
      show bnd2 (f_X11_fail S1 (nI 2)) _ = _
      rw [cErr h1.2.2.1.1 (by decide), bnd2_some]
    · (try dsimp only)
      have := mRight hN (s := E1 S1 2) (m := S.1 173) (by rw [E1_nek (by decide)]; exact e1) hW hi 100 0 N (by omega) hN
      rw [hr] at this
      refine Eq.trans this ?_
      show bnd2 (f_X12_error (E1 S1 2) (nI 2)) _ = _
      rw [mErr (by decide), bnd2_some]
