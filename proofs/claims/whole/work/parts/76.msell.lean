/-! the model's side of it -/
theorem upd_comm {m : Nat → Int32} {x y : Nat} {a b : Int32} (h : x ≠ y) : upd (upd m x a) y b = upd (upd m y b) x a := by
  funext z
  by_cases e1 : z = x
  · subst e1; rw [upd_ne h, upd_same, upd_same]
  · by_cases e2 : z = y
    · subst e2; rw [upd_same, upd_ne e1, upd_same]
    · rw [upd_ne e2, upd_ne e1, upd_ne e1, upd_ne e2]
theorem mGets {S s : St} {a : Nat → Int32} (h : MR S s a) (hW : WF a) {o d : Nat} (ho : o < 6) (hd : d < 2000000000) : f_X12_gets s (nI o) (nI d) = some (pt s 173 (21 + 4 * o) (nI (if 999999 < w a (21 + 4 * o) + d then 999999 else w a (21 + 4 * o) + d))) := by
  have hM := h.2.2
  have b := hW.ty (l_purse o ho) (by decide)
  have e : (20 : Int32) + 4 * nI o + 1 = nI (21 + 4 * o) := by rw [k20, k4, pk_mul, nI_add, nI_1]; congr 1; omega
  unfold f_X12_gets f_X12_gets_40
  rw [e, if_pos (inb_nI (by omega) (by decide)), nI_clamp (by omega), hM, b.1, k999999, nI_sub (by omega)]
  by_cases c : 999999 < w a (21 + 4 * o) + d
  · rw [if_neg (nI_ge (by omega) (by omega)), if_pos (inb_nI (by omega) (by decide)), if_pos c]
  · rw [if_pos (nI_le (by omega) (by omega)), if_pos (inb_nI (by omega) (by decide)), if_pos (inb_nI (by omega) (by decide)), if_neg c, nI_add]
theorem MR.pt {S s : St} {a : Nat → Int32} (h : MR S s a) (x : Nat) (v : Int32) : MR S (pt s 173 x v) (upd a x v) := ⟨fun q x1 x2 x3 => by rw [pt_nek x1]; exact h.1 q x1 x2 x3, h.2.1, by rw [pt_same, h.2.2]⟩
theorem mAsk {N : Nat} {S : St} {m : Nat → Int32} {i o pr : Nat} (hi : i < w m 1) (ho : o < w m 0) : ∀ (k p f : Nat) (s : St) (a : Nat → Int32), MR S s a → WS m a → own a i = o → w a (45 + 4 * i) = pr → p + k = w m 0 → k < f → ∃ s', f_X12_isAsked_16 N f s (nI i) (nI o) (nI pr) (nI p) = some s' ∧ MR S s' (ask o i pr k p a) := by
  intro k
  induction k with
  | zero =>
    intro p f s a h hw _ _ h1 h2
    obtain ⟨f, rfl⟩ := fuel h2
    refine ⟨s, ?_, h⟩
    have hp2 : w m 0 < 7 := by rw [← hw.2.1]; exact hw.1.np.2
    have hz : s.1 173 0 = nI (w m 0) := by rw [h.2.2, ← hw.2.1]; exact hw.1.np.1
    rw [f_X12_isAsked_16, hz, if_pos (nI_le (by omega) (by omega))]
  | succ k ih =>
    intro p f s a h hw ho' hpr h1 h2
    obtain ⟨f, rfl⟩ := fuel h2
    have hp2 : w m 0 < 7 := by rw [← hw.2.1]; exact hw.1.np.2
    have hi2 : w m 1 < 13 := by rw [← hw.2.2.1]; exact hw.1.nt.2
    have hz : s.1 173 0 = nI (w m 0) := by rw [h.2.2, ← hw.2.1]; exact hw.1.np.1
    have hprn := (hw.1.ty (l_price i (by omega)) (by decide)).2
    have hno : ∀ s' : St, f_X12_isAsked_170 N (f_X12_isAsked_16 N f) s' (nI i) (nI o) (nI pr) (nI p) = f_X12_isAsked_16 N f s' (nI i) (nI o) (nI pr) (nI (p + 1)) := fun s' => by unfold f_X12_isAsked_170; rw [nI_1]
    unfold ask
    by_cases c1 : p = o
    · rw [if_pos c1, f_X12_isAsked_16, hz, if_neg (nI_ge (by omega) (by omega)), if_pos (by rw [c1]), hno]
      exact ih (p + 1) f s a h hw ho' hpr (by omega) (by omega)
    · have hzw := zN_wf hw
      have hC : MR S (pt s 173 8 (a 8 * 1103515245 + 12345)) (zN a) := h.pt 8 _
      have hM := hC.2.2
      have hzo : own (zN a) i = o := by rw [zN_own]; exact ho'
      have hzpr : w (zN a) (45 + 4 * i) = pr := by rw [zN_w (by omega)]; exact hpr
      have go := ih (p + 1) f (pt s 173 8 (a 8 * 1103515245 + 12345)) (zN a) hC hzw hzo hzpr (by omega) (by omega)
      have hpu := hw.1.ty (l_purse p (by omega)) (by decide)
      have hv := (val_lt hw.1 (p := p) (i := i) (by omega) (by omega)).1
      have hof := hw.1.ty (l_outof p (by omega)) (by decide)
      have ho0 := hw.1.2.1 p (by rw [hw.2.1]; omega)
      have hd : f_X12_draw s = some (drw (zN a), pt s 173 8 (a 8 * 1103515245 + 12345)) := by
        unfold f_X12_draw drw
        rw [h.2.2, pt_at]
        rfl
      have er : drw (zN a) - drw (zN a) / a (23 + 4 * p) * a (23 + 4 * p) = rr (zN a) p := by unfold rr; rw [zN_ne (by omega)]
      rw [if_neg c1, f_X12_isAsked_16, hz, if_neg (nI_ge (by omega) (by omega)), if_neg (fun e => c1 ((nI_eq (by omega) (by omega)).mp e)), hd, bnd2_some, mOutOf hM (by omega), bnd_some, zN_ne (by omega), if_neg (by rw [hof.1]; exact nI_ne0 ho0 (by omega)), mChance hM (by omega), bnd_some, zN_ne (by omega), er, mVal hM hzw.1 (by omega) (by omega), bnd_some, zN_val, mPurse hM (by omega), bnd_some, zN_ne (by omega), hpu.1]
      by_cases c2 : a (22 + 4 * p) ≤ rr (zN a) p
      · rw [if_neg (Int32.not_lt.mpr c2), if_pos c2, hno]; exact go
      · rw [if_pos (Int32.not_le.mp c2), if_neg c2]
        by_cases c3 : val a p i ≤ pr
        · rw [if_pos (nI_le c3 (by omega)), if_pos c3, hno]; exact go
        · rw [if_neg (nI_ge (by omega) (by omega)), if_neg c3]
          by_cases c4 : w a (21 + 4 * p) < pr
          · rw [if_pos (nI_lt c4 (by omega)), if_pos c4, hno]; exact go
          · rw [if_neg (nI_nlt (by omega) (by omega)), if_neg c4]
            have e1 : (20 : Int32) + 4 * nI p + 1 = nI (21 + 4 * p) := by rw [k20, k4, pk_mul, nI_add, nI_1]; congr 1; omega
            have e2 : (44 : Int32) + 4 * nI i + 0 = nI (44 + 4 * i) := by rw [k44, k4, pk_mul, nI_add, k0, nI_add]; rfl
            have e3 : (44 : Int32) + 4 * nI i + 2 = nI (46 + 4 * i) := by rw [k44, k4, pk_mul, nI_add, k2, nI_add]; congr 1; omega
            obtain ⟨w1, w2, w3, w4, w5⟩ := sold_wf hzw (o := o) (i := i) (pr := pr) (p := p) (by omega) hi (by omega) (by omega)
            generalize pt s 173 8 (a 8 * 1103515245 + 12345) = S5 at hC hM ⊢
            have m1 : MR S (pt S5 173 (21 + 4 * p) (nI (w a (21 + 4 * p) - pr))) (upd (zN a) (21 + 4 * p) (nI (w a (21 + 4 * p) - pr))) := hC.pt _ _
            have W1 : WF (upd (zN a) (21 + 4 * p) (nI (w a (21 + 4 * p) - pr))) := hzw.1.set rfl (by omega) (by omega) (by rw [l_purse _ (by omega)]; omega) (fun p e => by omega) (fun p e => by omega) (fun k e => by omega)
            have g := mGets m1 W1 (o := o) (d := pr) (by omega) (by omega)
            have m2 := m1.pt (21 + 4 * o) (nI (if 999999 < w (upd (zN a) (21 + 4 * p) (nI (w a (21 + 4 * p) - pr))) (21 + 4 * o) + pr then 999999 else w (upd (zN a) (21 + 4 * p) (nI (w a (21 + 4 * p) - pr))) (21 + 4 * o) + pr))
            have eq2 : upd (upd (zN a) (21 + 4 * p) (nI (w a (21 + 4 * p) - pr))) (21 + 4 * o) (nI (if 999999 < w (upd (zN a) (21 + 4 * p) (nI (w a (21 + 4 * p) - pr))) (21 + 4 * o) + pr then 999999 else w (upd (zN a) (21 + 4 * p) (nI (w a (21 + 4 * p) - pr))) (21 + 4 * o) + pr)) = sold2 pr p (sold1 o pr (zN a)) := by
              unfold sold2 sold1
              rw [upd_w_ne (show 21 + 4 * o ≠ 21 + 4 * p by omega), upd_w_ne (show 21 + 4 * p ≠ 21 + 4 * o by omega), zN_w (show 21 + 4 * p ≠ 8 by omega), upd_comm (by omega)]
            rw [eq2] at m2
            rw [e1, if_pos (inb_nI (by omega) (by decide)), if_pos (inb_nI (by omega) (by decide)), nI_clamp (by omega), hM, zN_ne (by omega), hpu.1, nI_sub (by omega), g, bnd_some]
            generalize pt (pt S5 173 (21 + 4 * p) (nI (w a (21 + 4 * p) - pr))) 173 (21 + 4 * o) (nI (if 999999 < w (upd (zN a) (21 + 4 * p) (nI (w a (21 + 4 * p) - pr))) (21 + 4 * o) + pr then 999999 else w (upd (zN a) (21 + 4 * p) (nI (w a (21 + 4 * p) - pr))) (21 + 4 * o) + pr)) = S6 at m2 ⊢
            have m3 := m2.pt (44 + 4 * i) (nI p)
            have m4 : MR S (pt (pt S6 173 (44 + 4 * i) (nI p)) 173 4 ((sold2 pr p (sold1 o pr (zN a))) 4 + 1)) (sold3 i p (sold2 pr p (sold1 o pr (zN a)))) := m3.pt 4 _
            rw [e2, if_pos (inb_nI (by omega) (by decide)), nI_clamp (by omega), m3.2.2, upd_ne (show 4 ≠ 44 + 4 * i by omega)]
            generalize pt (pt S6 173 (44 + 4 * i) (nI p)) 173 4 ((sold2 pr p (sold1 o pr (zN a))) 4 + 1) = S7 at m4 ⊢
            rw [mSound m4.2.2 (by omega), bnd_some, m4.2.2, e3]
            unfold sold
            generalize sold3 i p (sold2 pr p (sold1 o pr (zN a))) = b at m4 w4 ⊢
            have hs := w4.1.ty (l_sound i (by omega)) (by decide)
            have hwe : b 11 = nI (w b 11) ∧ w b 11 < 100 := w4.1.ty (x := 11) (n := 100) rfl (by decide)
            refine ⟨pt S7 173 (46 + 4 * i) (nI (w b (46 + 4 * i) - w b 11)), ?_, m4.pt _ _⟩
            unfold f_X12_isAsked_168
            rw [if_pos (inb_nI (by omega) (by decide)), if_pos (inb_nI (by omega) (by decide)), nI_clamp (by omega), hs.1, hwe.1]
            by_cases c : w b 11 ≤ w b (46 + 4 * i)
            · rw [nI_sub c, if_pos (nI_pos' (by omega))]
            · rw [if_neg (fun e => by have := pk_sneg (a := w b (46 + 4 * i)) (b := w b 11) (by omega) (by omega); rw [Int32.le_iff_toInt_le] at e; rw [Int32.lt_iff_toInt_lt] at this; omega), show w b (46 + 4 * i) - w b 11 = 0 by omega]; rfl
theorem ask_wf {m : Nat → Int32} {i o pr : Nat} (hi : i < w m 1) (ho : o < 6) (hpr : pr ≤ 9999) : ∀ (k p : Nat) (a : Nat → Int32), WS m a → p + k = w m 0 → WS m (ask o i pr k p a) := by
  intro k
  induction k with
  | zero => intro p a h _; exact h
  | succ k ih =>
    intro p a h e
    have hz := zN_wf h
    unfold ask
    split
    · exact ih _ _ h (by omega)
    · split
      · exact ih _ _ hz (by omega)
      · split
        · exact ih _ _ hz (by omega)
        · split
          · exact ih _ _ hz (by omega)
          · exact (sold_wf hz ho hi (by omega) hpr).2.2.2.2
theorem askS_wf {m a : Nat → Int32} (h : WS m a) {i : Nat} (hi : i < w m 1) : WS m (askS i a) := by
  have hia : i < w a 1 := by rw [h.2.2.1]; exact hi
  have hi2 := h.1.nt.2
  have ho := own_lt h.1 hia
  have hpr := h.1.ty (l_price i (by omega)) (by decide)
  unfold askS
  split
  · exact ask_wf hi ho.2 (by omega) _ _ _ h (by rw [h.2.1]; omega)
  · exact h
theorem mSells {N : Nat} (hN : 100 < N) {S S1 : St} {m : Nat → Int32} (h0 : MR S S1 m) (hW : WF m) : ∃ s, f_X12_year_61 N N S1 0 = f_X12_year_93 N N s 0 ∧ MR S s (lp askS (w m 1) 0 m) := by
  have hi2 := hW.nt.2
  have hp2 := hW.np.2
  have hz : ∀ s a, MR S s a → WS m a → s.1 173 1 = nI (w m 1) := fun s a h1 h2 => by rw [h1.2.2, ← h2.2.2.1]; exact h2.1.nt.1
  have hstep : ∀ (f i : Nat) (s : St) (a : Nat → Int32), i < w m 1 → (MR S s a ∧ WS m a) → ∃ s', f_X12_year_61 N (f + 1) s (nI i) = f_X12_year_61 N f s' (nI (i + 1)) ∧ (MR S s' (askS i a) ∧ WS m (askS i a)) := by
    intro f i s a hi hR
    obtain ⟨r1, r3⟩ := hR
    have hA' := askS_wf r3 hi
    have hM := r1.2.2
    have hia : i < w a 1 := by rw [r3.2.2.1]; exact hi
    have ho := own_lt r3.1 hia
    have hk := r3.1.ty (l_kept i (by omega)) (by decide)
    have hpr := r3.1.ty (l_price i (by omega)) (by decide)
    have e0 : f_X12_year_61 N (f + 1) s (nI i) = (if nI (w a (47 + 4 * i)) = 0 then bnd (f_X12_isAsked N s (nI i)) (fun S8 => f_X12_year_61 N f S8 (nI (i + 1))) else f_X12_year_61 N f s (nI (i + 1))) := by
      rw [f_X12_year_61, hz s a r1 r3, if_neg (nI_ge hi (by omega)), mKept hM (by omega), bnd_some, hk.1]
      unfold f_X12_year_85
      rw [nI_1]
    rw [e0]
    unfold askS at hA' ⊢
    by_cases c : w a (47 + 4 * i) = 0
    · obtain ⟨s', g1, g2⟩ := mAsk (N := N) (S := S) hi (o := own a i) (pr := w a (45 + 4 * i)) (by rw [← r3.2.1]; exact ho.1) (w m 0) 0 N s a r1 r3 rfl rfl (by omega) (by omega)
      rw [if_pos c] at hA' ⊢
      rw [if_pos (by rw [c]; rfl), r3.2.1] at *
      refine ⟨s', ?_, g2, hA'⟩
      have e1 : f_X12_isAsked N s (nI i) = some s' := by
        unfold f_X12_isAsked
        rw [mOwnV hM r3.1 (by omega), bnd_some, mPrice hM (by omega), bnd_some, hpr.1]
        exact g1
      rw [e1, bnd_some]
    · rw [if_neg c] at hA' ⊢
      rw [if_neg (show ¬ nI (w a (47 + 4 * i)) = (0 : Int32) from nI_ne0 (by omega) (by omega))]
      exact ⟨s, rfl, r1, r3⟩
  obtain ⟨s', f', e1, e2⟩ := loopR (fun f i s => f_X12_year_61 N f s (nI i)) (fun _ s a => MR S s a ∧ WS m a) askS (w m 1) hstep (w m 1) 0 N S1 m ⟨h0, WS.refl hW⟩ (by omega) (by omega)
  refine ⟨s', ?_, e2.1⟩
  refine e1.trans ?_
  show f_X12_year_61 N (f' + 1) s' (nI (w m 1)) = _
  rw [f_X12_year_61, hz _ _ e2.1 e2.2, if_pos (nI_le (Nat.le_refl _) (by omega))]
