/-! the model's side of it -/
theorem upd_comm {m : Nat → Int32} {x y : Nat} {a b : Int32} (h : x ≠ y) : upd (upd m x a) y b = upd (upd m y b) x a := by
  funext z
  by_cases e1 : z = x
  · subst e1; rw [upd_ne h, upd_same, upd_same]
  · by_cases e2 : z = y
    · subst e2; rw [upd_same, upd_ne e1, upd_same]
    · rw [upd_ne e2, upd_ne e1, upd_ne e1, upd_ne e2]
theorem mGets {S s : St} {m a : Nat → Int32} (h : MR S s a) (hW : WF a) {o d : Nat} (ho : o < 6) (hd : d < 2000000000) : f_X12_gets s (nI o) (nI d) = some (pt s 173 (21 + 4 * o) (nI (if 999999 < w a (21 + 4 * o) + d then 999999 else w a (21 + 4 * o) + d))) := by
  have hM := h.2.2
  have b := hW.ty (l_purse o ho) (by decide)
  have e : (20 : Int32) + 4 * nI o + 1 = nI (21 + 4 * o) := by rw [k20, k4, pk_mul, nI_add, nI_1]; congr 1; omega
  unfold f_X12_gets f_X12_gets_40
  rw [e, if_pos (inb_nI (by omega) (by decide)), nI_clamp (by omega), hM, b.1, k999999, nI_sub (by omega)]
  by_cases c : 999999 < w a (21 + 4 * o) + d
  · rw [if_neg (nI_ge (by omega) (by omega)), if_pos (inb_nI (by omega) (by decide)), if_pos c]
  · rw [if_pos (nI_le (by omega) (by omega)), if_pos (inb_nI (by omega) (by decide)), if_pos (inb_nI (by omega) (by decide)), if_neg c, nI_add]
theorem MR.pt {S s : St} {a : Nat → Int32} (h : MR S s a) (x : Nat) (v : Int32) : MR S (pt s 173 x v) (upd a x v) := ⟨fun q x1 x2 x3 => by rw [pt_nek x1]; exact h.1 q x1 x2 x3, h.2.1, by rw [pt_same, h.2.2]⟩
theorem mAsk {N : Nat} {S : St} {m : Nat → Int32} {i o pr : Nat} (hi : i < w m 1) (ho : o < w m 0) : ∀ (k p f : Nat) (s : St) (a : Nat → Int32), MR S s a → WS m a → own a i = o → w a (45 + 4 * i) = pr → p + k = w m 0 → k < f → ∃ s', f_X12_isAsked_16 N f s (nI i) (nI o) (nI pr) (nI p) = some s' ∧ MR S s' (ask o i pr k p a) := by
  intro k
  induction k with
  | zero =>
    intro p f s a h hw _ _ h1 h2
    obtain ⟨f, rfl⟩ := fuel h2
    refine ⟨s, ?_, h⟩
    have hp2 : w m 0 < 7 := by rw [← hw.2.1]; exact hw.1.np.2
    have hz : s.1 173 0 = nI (w m 0) := by rw [h.2.2, ← hw.2.1]; exact hw.1.np.1
    rw [f_X12_isAsked_16, hz, if_pos (nI_le (by omega) (by omega))]
  | succ k ih =>
    intro p f s a h hw ho' hpr h1 h2
    obtain ⟨f, rfl⟩ := fuel h2
    have hp2 : w m 0 < 7 := by rw [← hw.2.1]; exact hw.1.np.2
    have hi2 : w m 1 < 13 := by rw [← hw.2.2.1]; exact hw.1.nt.2
    have hz : s.1 173 0 = nI (w m 0) := by rw [h.2.2, ← hw.2.1]; exact hw.1.np.1
    have hprn := (hw.1.ty (l_price i (by omega)) (by decide)).2
    have hno : ∀ s' : St, f_X12_isAsked_170 N (f_X12_isAsked_16 N f) s' (nI i) (nI o) (nI pr) (nI p) = f_X12_isAsked_16 N f s' (nI i) (nI o) (nI pr) (nI (p + 1)) := fun s' => by unfold f_X12_isAsked_170; rw [nI_1]
    unfold ask
    by_cases c1 : p = o
    · rw [if_pos c1, f_X12_isAsked_16, hz, if_neg (nI_ge (by omega) (by omega)), if_pos (by rw [c1]), hno]
      exact ih (p + 1) f s a h hw ho' hpr (by omega) (by omega)
    · have hzw := zN_wf hw
      have hC : MR S (pt s 173 8 (a 8 * 1103515245 + 12345)) (zN a) := h.pt 8 _
      have hM := hC.2.2
      have hzo : own (zN a) i = o := by rw [zN_own]; exact ho'
      have hzpr : w (zN a) (45 + 4 * i) = pr := by rw [zN_w (by omega)]; exact hpr
      have go := ih (p + 1) f (pt s 173 8 (a 8 * 1103515245 + 12345)) (zN a) hC hzw hzo hzpr (by omega) (by omega)
      have hpu := hw.1.ty (l_purse p (by omega)) (by decide)
      have hv := (val_lt hw.1 (p := p) (i := i) (by omega) (by omega)).1
      have hof := hw.1.ty (l_outof p (by omega)) (by decide)
      have ho0 := hw.1.2.1 p (by rw [hw.2.1]; omega)
      have hd : f_X12_draw s = some (drw (zN a), pt s 173 8 (a 8 * 1103515245 + 12345)) := by
        unfold f_X12_draw drw
        rw [h.2.2, pt_at]
        rfl
      have er : drw (zN a) - drw (zN a) / a (23 + 4 * p) * a (23 + 4 * p) = rr (zN a) p := by unfold rr; rw [zN_ne (by omega)]
      rw [if_neg c1, f_X12_isAsked_16, hz, if_neg (nI_ge (by omega) (by omega)), if_neg (fun e => c1 ((nI_eq (by omega) (by omega)).mp e)), hd, bnd2_some, mOutOf hM (by omega), bnd_some, zN_ne (by omega), if_neg (by rw [hof.1]; exact nI_ne0 ho0 (by omega)), mChance hM (by omega), bnd_some, zN_ne (by omega), er, mVal hM hzw.1 (by omega) (by omega), bnd_some, zN_val, mPurse hM (by omega), bnd_some, zN_ne (by omega), hpu.1]
      by_cases c2 : a (22 + 4 * p) ≤ rr (zN a) p
      · rw [if_neg (Int32.not_lt.mpr c2), if_pos c2, hno]; exact go
      · rw [if_pos (Int32.not_le.mp c2), if_neg c2]
        by_cases c3 : val a p i ≤ pr
        · rw [if_pos (nI_le c3 (by omega)), if_pos c3, hno]; exact go
        · rw [if_neg (nI_ge (by omega) (by omega)), if_neg c3]
          by_cases c4 : w a (21 + 4 * p) < pr
          · rw [if_pos (nI_lt c4 (by omega)), if_pos c4, hno]; exact go
          · rw [if_neg (nI_nlt (by omega) (by omega)), if_neg c4]
            sorry
