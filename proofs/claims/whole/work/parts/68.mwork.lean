/-- the model's pile after k steps -/
def RP (S : St) (m : Nat → Int32) (u k : Nat) (s : St) (a : Nat → Int32) : Prop := (∀ q, q ≠ 179 → s.1 q = S.1 q) ∧ s.2 = S.2 ∧ ∀ i, i < dpt m u k → s.1 179 i = a i
theorem mWork {N : Nat} (hN : 100 < N) {S : St} {m : Nat → Int32} (hM : S.1 173 = m) {u : Nat} (hu : u < 2) (hT : TX m u) (hn : 0 < w m (tb u)) {nm : Int32 → Int32} (hnm : ∀ c j, j < 128 → isNm u c → c = nI j → S.1 178 j = nm c) :
    ∃ S', f_X12_worked N S (nI u) = some (tw m u nm, S') ∧ (∀ q, q ≠ 179 → S'.1 q = S.1 q) ∧ S'.2 = S.2 := by
  have hn60 := hT.2.1
  have hb : (182 : Int32) + 125 * nI u = nI (tb u) := by rw [k182, k125, pk_mul, nI_add]; rfl
  have htb : tb u < 308 := by unfold tb; omega
  have hstep : ∀ (f k : Nat) (s : St) (a : Nat → Int32), k < w m (tb u) → RP S m u k s a → ∃ s', f_X12_worked_14 N (f + 1) s (nI (tb u)) (nI (dpt m u k)) (nI k) = f_X12_worked_14 N f s' (nI (tb u)) (nI (dpt m u (k + 1))) (nI (k + 1)) ∧ RP S m u (k + 1) s' (evS m u nm k a) := by
    intro f k s a hkn hR
    obtain ⟨r1, r2, r4⟩ := hR
    have hdk : dpt m u k ≤ k := dpt_le k
    have hx : ∀ (s'' : St) (d : Int32), f_X12_worked_158 N (f_X12_worked_14 N f) s'' (nI (tb u)) d (nI k) = f_X12_worked_14 N f s'' (nI (tb u)) d (nI (k + 1)) := fun s'' d => by unfold f_X12_worked_158; rw [nI_1]
    obtain ⟨t1, t2, t3, t4, t5, t6⟩ := hT.2.2.2 k hkn
    have e1 : nI (tb u) + 1 + 2 * nI k = nI (tb u + 1 + 2 * k) := by rw [k2, k1, pk_mul, nI_add, nI_add]
    have e2 : nI (tb u) + 2 + 2 * nI k = nI (tb u + 2 + 2 * k) := by rw [k2, pk_mul, nI_add, nI_add]
    have hs : s.1 173 = m := by rw [r1 _ (by decide)]; exact hM
    have push : ∀ x : Int32, twh m u k < 2 → evS m u nm k a = upd a (dpt m u k) x → RP S m u (k + 1) (pt s 179 (dpt m u k) x) (evS m u nm k a) := fun x ht ex => by
      have ed : dpt m u (k + 1) = dpt m u k + 1 := by rw [dpt, if_pos ht]
      refine ⟨fun q a => by rw [pt_nek a]; exact r1 q a, r2, fun i hi => ?_⟩
      rw [ed] at hi
      rw [pt_same, ex]
      by_cases ei : i = dpt m u k
      · subst ei; rw [upd_same, upd_same]
      · rw [upd_ne ei, upd_ne ei]; exact r4 i (by omega)
    have h88 : ∀ x : Int32, twh m u k < 2 → f_X12_worked_88 N (f_X12_worked_14 N f) s (nI (tb u)) (nI (dpt m u k)) (nI k) x (nI (dpt m u k)) = f_X12_worked_14 N f (pt s 179 (dpt m u k) x) (nI (tb u)) (nI (dpt m u (k + 1))) (nI (k + 1)) := fun x ht => by
      have ed : dpt m u (k + 1) = dpt m u k + 1 := by rw [dpt, if_pos ht]
      unfold f_X12_worked_88
      rw [if_pos (inb_nI (by omega) (by decide)), nI_clamp (by omega), hx, ed, nI_1]
    have hw : twh m u k = 0 ∨ twh m u k = 1 ∨ twh m u k = 2 ∨ twh m u k = 3 := by omega
    have hin1 : inb (nI (tb u)) 516 = true := inb_nI (by omega) (by decide)
    have hin2 : inb (nI (tb u + 1 + 2 * k)) 516 = true := inb_nI (by omega) (by decide)
    have hin3 : inb (nI (tb u + 2 + 2 * k)) 516 = true := inb_nI (by omega) (by decide)
    have hlt : ¬ m (tb u) ≤ nI k := by rw [hT.1]; exact nI_ge hkn (by omega)
    rcases hw with hw | hw | hw | hw
    · refine ⟨_, ?_, push (m (tb u + 2 + 2 * k)) (by omega) (by unfold evS; rw [if_pos hw])⟩
      rw [f_X12_worked_14, if_pos hin1, nI_clamp (by omega), e1, e2, hs, if_neg hlt, if_pos hin2, if_pos hin3, nI_clamp (by omega), nI_clamp (by omega), t1, hw, if_pos (show nI 0 = (0 : Int32) from rfl)]
      unfold f_X12_worked_66
      rw [if_pos (show nI 0 = (0 : Int32) from rfl), h88 _ (by omega)]
    · obtain ⟨j, hj, ej⟩ := nm_n (t4 hw)
      refine ⟨_, ?_, push (nm (m (tb u + 2 + 2 * k))) (by omega) (by unfold evS; rw [if_neg (by omega), if_pos hw])⟩
      rw [f_X12_worked_14, if_pos hin1, nI_clamp (by omega), e1, e2, hs, if_neg hlt, if_pos hin2, if_pos hin3, nI_clamp (by omega), nI_clamp (by omega), t1, hw, if_neg (show ¬ nI 1 = (0 : Int32) by decide), if_pos (show nI 1 = (1 : Int32) from rfl)]
      unfold f_X12_worked_66
      rw [if_neg (show ¬ nI 1 = (0 : Int32) by decide)]
      rw [show inb (m (tb u + 2 + 2 * k)) 128 = true by rw [ej]; exact inb_nI hj (by decide), if_pos rfl, h88 _ (by omega), ej, nI_clamp (by omega), r1 _ (by decide), ← ej, hnm _ j hj (t4 hw) ej]
    · have hd := t5 hw
      obtain ⟨d, ed0⟩ : ∃ d, dpt m u k = d + 1 := ⟨dpt m u k - 1, by omega⟩
      have ed : dpt m u (k + 1) = d + 1 := by rw [dpt, if_neg (by omega), if_pos hw, ed0]
      refine ⟨pt s 179 d (if s.1 179 d = 0 then 1 else 0), ?_, fun q a => by rw [pt_nek a]; exact r1 q a, r2, fun i hi => ?_⟩
      · rw [f_X12_worked_14, if_pos hin1, nI_clamp (by omega), e1, e2, hs, if_neg hlt, if_pos hin2, if_pos hin3, nI_clamp (by omega), nI_clamp (by omega), t1, hw, if_neg (show ¬ nI 2 = (0 : Int32) by decide), if_neg (show ¬ nI 2 = (1 : Int32) by decide), if_pos (show nI 2 = (2 : Int32) from rfl), ed, ed0]
        have es : nI (d + 1) - 1 = nI d := by rw [k1, nI_sub (by omega)]; rfl
        rw [es, if_pos (inb_nI (by omega) (by decide)), nI_clamp (by omega)]
        have h124 : ∀ x : Int32, f_X12_worked_124 N (f_X12_worked_14 N f) s (nI (tb u)) (nI (d + 1)) (nI k) x (nI d) = f_X12_worked_14 N f (pt s 179 d x) (nI (tb u)) (nI (d + 1)) (nI (k + 1)) := fun x => by
          unfold f_X12_worked_124
          rw [if_pos (inb_nI (by omega) (by decide)), nI_clamp (by omega), hx]
        by_cases c : s.1 179 d = 0
        · rw [if_pos c, if_pos c, h124]
        · rw [if_neg c, if_neg c, h124]
      · rw [ed] at hi
        rw [pt_same]
        have ex : evS m u nm k a = upd a d (if a d = 0 then 1 else 0) := by unfold evS; rw [if_neg (by omega), if_neg (by omega), if_pos hw, show dpt m u k - 1 = d by omega]
        rw [ex]
        by_cases ei : i = d
        · subst ei; rw [upd_same, upd_same, r4 i (by omega)]
        · rw [upd_ne ei, upd_ne ei]; exact r4 i (by omega)
    · obtain ⟨hd, hsg⟩ := t6 hw
      obtain ⟨d, ed0⟩ : ∃ d, dpt m u k = d + 1 + 1 := ⟨dpt m u k - 2, by omega⟩
      have ed : dpt m u (k + 1) = d + 1 := by rw [dpt, if_neg (by omega), if_neg (by omega), ed0]; rfl
      refine ⟨pt s 179 d (jo (m (tb u + 2 + 2 * k)) (s.1 179 d) (s.1 179 (d + 1))), ?_, fun q a => by rw [pt_nek a]; exact r1 q a, r2, fun i hi => ?_⟩
      · rw [f_X12_worked_14, if_pos hin1, nI_clamp (by omega), e1, e2, hs, if_neg hlt, if_pos hin2, if_pos hin3, nI_clamp (by omega), nI_clamp (by omega), t1, hw, if_neg (show ¬ nI 3 = (0 : Int32) by decide), if_neg (show ¬ nI 3 = (1 : Int32) by decide), if_neg (show ¬ nI 3 = (2 : Int32) by decide), ed, ed0]
        have es : nI (d + 1 + 1) + (-1) = nI (d + 1) := by
          rw [show nI (d + 1 + 1) + (-1 : Int32) = nI (d + 1 + 1) - 1 from by rw [Int32.sub_eq_add_neg], k1, nI_sub (by omega)]; rfl
        have es2 : nI (d + 1) - 1 = nI d := by rw [k1, nI_sub (by omega)]; rfl
        rw [es, es2, if_pos (inb_nI (by omega) (by decide)), if_pos (inb_nI (by omega) (by decide)), nI_clamp (by omega), nI_clamp (by omega), mJoined, bnd_some, if_pos (inb_nI (by omega) (by decide)), hx]
      · rw [ed] at hi
        rw [pt_same]
        have ex : evS m u nm k a = upd a d (jo (m (tb u + 2 + 2 * k)) (a d) (a (d + 1))) := by unfold evS; rw [if_neg (by omega), if_neg (by omega), if_neg (by omega), show dpt m u k - 2 = d by omega, show dpt m u k - 1 = d + 1 by omega]
        rw [ex]
        by_cases ei : i = d
        · subst ei; rw [upd_same, upd_same, r4 i (by omega), r4 (i + 1) (by omega)]
        · rw [upd_ne ei, upd_ne ei]; exact r4 i (by omega)
  obtain ⟨s', f', e1, e2⟩ := loopR (fun f k s => f_X12_worked_14 N f s (nI (tb u)) (nI (dpt m u k)) (nI k)) (RP S m u) (evS m u nm) (w m (tb u)) hstep (w m (tb u)) 0 N S (fun _ => 0) ⟨fun q a => rfl, rfl, fun i hi => absurd hi (Nat.not_lt_zero _)⟩ (by omega) (by omega)
  refine ⟨s', ?_, e2.1, e2.2.1⟩
  unfold f_X12_worked
  rw [hb, show f_X12_worked_14 N N S (nI (tb u)) 0 0 = _ from e1]
  show f_X12_worked_14 N (f' + 1) s' (nI (tb u)) (nI (dpt m u (w m (tb u)))) (nI (w m (tb u))) = _
  rw [f_X12_worked_14, if_pos (inb_nI (by omega) (by decide)), nI_clamp (by omega), e2.1 _ (by decide), hM, if_pos (by rw [hT.1]; exact nI_le (Nat.le_refl _) (by omega)), e2.2.2 0 (by rw [hT.2.2.1 hn]; decide)]
  rfl
/-- does a text stand? -/
theorem cStands {S : St} {t : Nat} {m : Nat → Int32} (h : RT S t m) (hW : WF m) {u : Nat} (hu : u < 2) : f_X7_stands S (t + 29 + 7 * u) = some (if w m (tb u) = 0 then 0 else 1) := by
  have h60 : w m (tb u) ≤ 60 := by have a := hW.2.2.2.2.1.2.1; have b := hW.2.2.2.2.2.2.1; rcases (show u = 0 ∨ u = 1 by omega) with rfl | rfl <;> assumption
  have hz : S.1 (t + 29 + 7 * u + 1) 1 = nI (w m (tb u)) := by rcases (show u = 0 ∨ u = 1 by omega) with rfl | rfl; exact h.2.1.1; exact h.2.2.1.1
  unfold f_X7_stands f_X5_size
  rw [hz, bnd_some]
  by_cases c : w m (tb u) = 0
  · rw [c, if_pos (show nI 0 ≤ 0 by decide), if_pos rfl]
  · rw [if_neg (by rw [k0]; exact nI_ge (by omega) (by omega)), if_neg c]
theorem mStands {S : St} {m : Nat → Int32} (hM : S.1 173 = m) (hW : WF m) {u : Nat} (hu : u < 2) : f_X12_hasText S (nI u) = some (if w m (tb u) = 0 then 0 else 1) := by
  have h60 : m (tb u) = nI (w m (tb u)) ∧ w m (tb u) ≤ 60 := by rcases (show u = 0 ∨ u = 1 by omega) with rfl | rfl; exact ⟨hW.2.2.2.2.1.1, hW.2.2.2.2.1.2.1⟩; exact ⟨hW.2.2.2.2.2.1, hW.2.2.2.2.2.2.1⟩
  have hb : (182 : Int32) + 125 * nI u = nI (tb u) := by rw [k182, k125, pk_mul, nI_add]; rfl
  have htb : tb u < 308 := by unfold tb; omega
  unfold f_X12_hasText
  rw [hb, if_pos (inb_nI (by omega) (by decide)), nI_clamp (by omega), hM, h60.1]
  by_cases c : w m (tb u) = 0
  · rw [c, if_pos (show nI 0 ≤ 0 by decide), if_pos rfl]
  · rw [if_neg (by rw [k0]; exact nI_ge (by omega) (by omega)), if_neg c]
