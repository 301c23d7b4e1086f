/-! WORKING A TEXT OUT -/
def jo (o a b : Int32) : Int32 := if o = 37 then (if b = 0 then 0 else a - a / b * b) else if o = 38 then (if a = 0 then 0 else if b = 0 then 0 else 1) else if o = 42 then a * b else if o = 43 then a + b else if o = 45 then a - b else if o = 47 then (if b = 0 then 0 else a / b) else if o = 60 then (if b ≤ a then 0 else 1) else if o = 61 then (if a = b then 1 else 0) else if o = 62 then (if a ≤ b then 0 else 1) else if a = 0 ∧ b = 0 then 0 else 1
theorem cJoined {S : St} {o a b : Int32} : f_X7_joined S o a b = some (jo o a b) := by
  unfold f_X7_joined f_X7_joined_211 jo
  repeat' split
  all_goals first | rfl | (exfalso; simp_all; done) | simp_all
theorem div_neg1 (a : Int32) : a / (-1) = -a := by
  apply Int32.toInt_inj.mp
  rw [Int32.toInt_div, show (-1 : Int32).toInt = -1 from by decide, Int.tdiv_neg, Int.tdiv_one, Int32.toInt_neg]
theorem mJoined {S : St} {o a b : Int32} : f_X12_joined S o a b = some (jo o a b) := by
  unfold f_X12_joined f_X12_joined_226 f_X12_joined_163 jo
  by_cases h1 : o = 37
  · rw [if_pos h1, if_pos h1]
    by_cases hb : b = 0
    · rw [if_pos hb, if_pos hb]
    · rw [if_neg hb, if_neg hb]
      by_cases hb1 : b = -1
      · rw [if_pos hb1, if_neg hb, hb1, div_neg1]
        have : -a * (-1 : Int32) = a := by rw [Int32.neg_mul, Int32.mul_neg, Int32.mul_one, Int32.neg_neg]
        rw [this]; simp
      · rw [if_neg hb1, if_neg hb]
  · rw [if_neg h1, if_neg h1]
    by_cases h2 : o = 47
    · subst h2
      rw [if_neg (show ¬ (47 : Int32) = 38 by decide), if_neg (show ¬ (47 : Int32) = 38 by decide), if_neg (show ¬ (47 : Int32) = 42 by decide), if_neg (show ¬ (47 : Int32) = 42 by decide), if_neg (show ¬ (47 : Int32) = 43 by decide), if_neg (show ¬ (47 : Int32) = 43 by decide), if_neg (show ¬ (47 : Int32) = 45 by decide), if_neg (show ¬ (47 : Int32) = 45 by decide), if_pos (show (47 : Int32) = 47 from rfl), if_pos (show (47 : Int32) = 47 from rfl)]
      by_cases hb : b = 0
      · rw [if_pos hb, if_pos hb]
      · rw [if_neg hb, if_neg hb]
        by_cases hb1 : b = -1
        · rw [if_pos hb1, if_neg hb, hb1, div_neg1]
        · rw [if_neg hb1, if_neg hb]
    · repeat' split
      all_goals first | rfl | (exfalso; simp_all; done) | simp_all
theorem dpt_le {m : Nat → Int32} {u : Nat} : ∀ k, dpt m u k ≤ k := by
  intro k
  induction k with
  | zero => exact Nat.le_refl _
  | succ k ih =>
    unfold dpt
    split
    · omega
    · split <;> omega
def evS (m : Nat → Int32) (u : Nat) (nm : Int32 → Int32) (k : Nat) (s : Nat → Int32) : Nat → Int32 := if twh m u k = 0 then upd s (dpt m u k) (m (tb u + 2 + 2 * k)) else if twh m u k = 1 then upd s (dpt m u k) (nm (m (tb u + 2 + 2 * k))) else if twh m u k = 2 then upd s (dpt m u k - 1) (if s (dpt m u k - 1) = 0 then 1 else 0) else upd s (dpt m u k - 2) (jo (m (tb u + 2 + 2 * k)) (s (dpt m u k - 2)) (s (dpt m u k - 1)))
/-- what a text comes to -/
def tw (m : Nat → Int32) (u : Nat) (nm : Int32 → Int32) : Int32 := lp (evS m u nm) (w m (tb u)) 0 (fun _ => 0) 0
theorem idx_nm {u : Nat} (hu : u < 2) {c : Int32} (h : isNm u c) : ∃ j, j < 5 ∧ idxS (2 + u) c = nI j := by
  have : u = 0 ∨ u = 1 := by omega
  unfold isNm at h
  rcases this with rfl | rfl
  · rw [if_pos rfl] at h
    rcases h with rfl | rfl | rfl | rfl | rfl
    · exact ⟨0, by decide, by decide⟩
    · exact ⟨3, by decide, by decide⟩
    · exact ⟨1, by decide, by decide⟩
    · exact ⟨2, by decide, by decide⟩
    · exact ⟨4, by decide, by decide⟩
  · rw [if_neg (by decide)] at h
    rcases h with rfl | rfl | rfl | rfl | rfl
    · exact ⟨0, by decide, by decide⟩
    · exact ⟨4, by decide, by decide⟩
    · exact ⟨1, by decide, by decide⟩
    · exact ⟨2, by decide, by decide⟩
    · exact ⟨3, by decide, by decide⟩
theorem sg_n {c : Int32} (h : isSg c) : ∃ j, j < 128 ∧ j ≠ 33 ∧ c = nI j := by
  unfold isSg at h
  rcases h with rfl | rfl | rfl | rfl | rfl | rfl | rfl | rfl | rfl | rfl
  · exact ⟨43, by decide, by decide, rfl⟩
  · exact ⟨45, by decide, by decide, rfl⟩
  · exact ⟨42, by decide, by decide, rfl⟩
  · exact ⟨47, by decide, by decide, rfl⟩
  · exact ⟨37, by decide, by decide, rfl⟩
  · exact ⟨60, by decide, by decide, rfl⟩
  · exact ⟨61, by decide, by decide, rfl⟩
  · exact ⟨62, by decide, by decide, rfl⟩
  · exact ⟨38, by decide, by decide, rfl⟩
  · exact ⟨124, by decide, by decide, rfl⟩
theorem nm_n {u : Nat} {c : Int32} (h : isNm u c) : ∃ j, j < 128 ∧ c = nI j := by
  unfold isNm at h
  rcases h with rfl | rfl | h
  · exact ⟨118, by decide, rfl⟩
  · exact ⟨114, by decide, rfl⟩
  · split at h
    · rcases h with rfl | rfl | rfl
      · exact ⟨109, by decide, rfl⟩
      · exact ⟨112, by decide, rfl⟩
      · exact ⟨121, by decide, rfl⟩
    · rcases h with rfl | rfl | rfl
      · exact ⟨115, by decide, rfl⟩
      · exact ⟨99, by decide, rfl⟩
      · exact ⟨117, by decide, rfl⟩
theorem k10000 : (10000 : Int32) = nI 10000 := rfl
theorem k20000 : (20000 : Int32) = nI 20000 := rfl
/-- the class's stack after k steps -/
def RS (S : St) (m : Nat → Int32) (u v : Nat) (k : Nat) (s : St) (a : Nat → Int32) : Prop := (∀ q, q ≠ v + 5 → q ≠ v + 6 → s.1 q = S.1 q) ∧ s.2 = S.2 ∧ s.1 (v + 5) 1 = nI (dpt m u k) ∧ ∀ i, i < dpt m u k → s.1 (v + 6) i = a i
theorem cWork {N : Nat} (hN : 100 < N) {S : St} {m : Nat → Int32} {u v : Nat} (hu : u < 2) (hT : TX m u) (hn : 0 < w m (tb u)) (hc : S.1 (v + 1) 1 = nI (w m (tb u))) (hk : ∀ k, k < w m (tb u) → S.1 (v + 2) k = enc u (m (tb u + 1 + 2 * k)) (m (tb u + 2 + 2 * k))) (h3 : S.1 (v + 3) 1 = nI 5) (hl : ln (v + 2) = 60 ∧ ln (v + 4) = 5 ∧ ln (v + 6) = 60) {nm : Int32 → Int32} (hnm : ∀ c j, j < 5 → isNm u c → idxS (2 + u) c = nI j → S.1 (v + 4) j = nm c) :
    ∃ S', f_X7_work N S v = some (tw m u nm, S') ∧ (∀ q, q ≠ v + 5 → q ≠ v + 6 → S'.1 q = S.1 q) ∧ S'.2 = S.2 := by
  have hn60 := hT.2.1
  unfold f_X7_work
  rw [p_reset0 (n := 0) (by rw [show v + 5 + 1 = v + 6 from rfl, hl.2.2]; decide) (by omega), bnd_some]
  have hstep : ∀ (f k : Nat) (s : St) (a : Nat → Int32), k < w m (tb u) → RS S m u v k s a → ∃ s', f_X7_work_10 N (f + 1) s v (nI k) = f_X7_work_10 N f s' v (nI (k + 1)) ∧ RS S m u v (k + 1) s' (evS m u nm k a) := by
    intro f k s a hkn hR
    obtain ⟨r1, r2, r3, r4⟩ := hR
    have hdk : dpt m u k ≤ k := dpt_le k
    have hc' : RW s (v + 1) (w m (tb u)) := ⟨by rw [r1 _ (by omega) (by omega)]; exact hc, by rw [show v + 1 + 1 = v + 2 from rfl, hl.1]; exact hn60, by rw [show v + 1 + 1 = v + 2 from rfl, hl.1]; decide⟩
    have hs : ∀ d, dpt m u k = d → RW s (v + 5) d := fun d hd => ⟨by rw [r3, hd], by rw [show v + 5 + 1 = v + 6 from rfl, hl.2.2]; omega, by rw [show v + 5 + 1 = v + 6 from rfl, hl.2.2]; decide⟩
    have hx : ∀ s'' : St, f_X7_work_86 N (f_X7_work_10 N f) s'' v (nI k) = f_X7_work_10 N f s'' v (nI (k + 1)) := fun s'' => by unfold f_X7_work_86; rw [nI_1]
    obtain ⟨t1, t2, t3, t4, t5, t6⟩ := hT.2.2.2 k hkn
    have hat : f_X5_at s (v + 1) (nI k) = some (enc u (nI (twh m u k)) (m (tb u + 2 + 2 * k))) := by
      rw [p_at hc' hkn, show v + 1 + 1 = v + 2 from rfl, r1 _ (by omega) (by omega), hk k hkn, t1]
    have hadd : ∀ (s1 : St) (d : Nat) (x : Int32), d < 60 → s1.1 (v + 5) 1 = nI d → f_X5_add s1 (v + 5) x = some (pt (pt s1 (v + 6) d x) (v + 5) 1 (nI (d + 1))) := fun s1 d x hd e => p_add ⟨e, by rw [show v + 5 + 1 = v + 6 from rfl, hl.2.2]; omega, by rw [show v + 5 + 1 = v + 6 from rfl, hl.2.2]; decide⟩ (by rw [show v + 5 + 1 = v + 6 from rfl, hl.2.2]; omega)
    have push : ∀ x : Int32, twh m u k < 2 → evS m u nm k a = upd a (dpt m u k) x → RS S m u v (k + 1) (pt (pt s (v + 6) (dpt m u k) x) (v + 5) 1 (nI (dpt m u k + 1))) (evS m u nm k a) := fun x ht ex => by
      have ed : dpt m u (k + 1) = dpt m u k + 1 := by rw [dpt, if_pos ht]
      refine ⟨fun q a b => by rw [pt_nek a, pt_nek b]; exact r1 q a b, r2, by rw [pt_at, ed], fun i hi => ?_⟩
      rw [ed] at hi
      rw [pt_nek (by omega), pt_same, ex]
      by_cases ei : i = dpt m u k
      · subst ei; rw [upd_same, upd_same]
      · rw [upd_ne ei, upd_ne ei]; exact r4 i (by omega)
    have hw : twh m u k = 0 ∨ twh m u k = 1 ∨ twh m u k = 2 ∨ twh m u k = 3 := by omega
    rcases hw with hw | hw | hw | hw
    · obtain ⟨g1, g2⟩ := t3 hw
      refine ⟨_, ?_, push (m (tb u + 2 + 2 * k)) (by omega) (by unfold evS; rw [if_pos hw])⟩
      show f_X7_work_10 N (f + 1) s v (nI k) = _
      rw [f_X7_work_10, p_size hc', bnd_some, if_neg (nI_ge hkn (by omega)), hat, bnd_some, hw]
      have ee : enc u (nI 0) (m (tb u + 2 + 2 * k)) = m (tb u + 2 + 2 * k) := by unfold enc; rw [if_pos (show nI 0 = (0 : Int32) from rfl)]
      rw [ee, k10000, if_neg (by rw [g1]; exact nI_ge g2 (by omega)), hadd s _ _ (by omega) r3, bnd_some, hx]
    · obtain ⟨j, hj, ej⟩ := idx_nm hu (t4 hw)
      refine ⟨_, ?_, push (nm (m (tb u + 2 + 2 * k))) (by omega) (by unfold evS; rw [if_neg (by omega), if_pos hw])⟩
      show f_X7_work_10 N (f + 1) s v (nI k) = _
      rw [f_X7_work_10, p_size hc', bnd_some, if_neg (nI_ge hkn (by omega)), hat, bnd_some, hw]
      have ee : enc u (nI 1) (m (tb u + 2 + 2 * k)) = nI (10000 + j) := by unfold enc; rw [if_neg (by decide), if_pos (show nI 1 = (1 : Int32) from rfl), ej, k10000, nI_add]
      have h3' : RW s (v + 3) 5 := ⟨by rw [r1 _ (by omega) (by omega)]; exact h3, by rw [show v + 3 + 1 = v + 4 from rfl, hl.2.1]; decide, by rw [show v + 3 + 1 = v + 4 from rfl, hl.2.1]; decide⟩
      rw [ee, k10000, k20000, if_pos (nI_le (by omega) (by omega)), if_neg (nI_ge (by omega) (by omega)), nI_sub (by omega), show 10000 + j - 10000 = j by omega, p_at h3' hj, bnd_some, show v + 3 + 1 = v + 4 from rfl, r1 _ (by omega) (by omega), hnm _ j hj (t4 hw) ej, hadd s _ _ (by omega) r3, bnd_some, hx]
    · have hd := t5 hw
      obtain ⟨d, ed0⟩ : ∃ d, dpt m u k = d + 1 := ⟨dpt m u k - 1, by omega⟩
      have ed : dpt m u (k + 1) = d + 1 := by rw [dpt, if_neg (by omega), if_pos hw, ed0]
      have hp := p_pop (hs _ ed0)
      have h27 : ∀ x : Int32, f_X7_workSign_27 (pt s (v + 5) 1 (nI d)) x (v + 5) = some (pt (pt (pt s (v + 5) 1 (nI d)) (v + 6) d x) (v + 5) 1 (nI (d + 1))) := fun x => by
        unfold f_X7_workSign_27
        rw [hadd _ d x (by omega) (by rw [pt_at]), bnd_some]
      refine ⟨pt (pt (pt s (v + 5) 1 (nI d)) (v + 6) d (if s.1 (v + 6) d = 0 then 1 else 0)) (v + 5) 1 (nI (d + 1)), ?_, fun q a b => by rw [pt_nek a, pt_nek b, pt_nek a]; exact r1 q a b, r2, by rw [pt_at, ed], fun i hi => ?_⟩
      · show f_X7_work_10 N (f + 1) s v (nI k) = _
        rw [f_X7_work_10, p_size hc', bnd_some, if_neg (nI_ge hkn (by omega)), hat, bnd_some, hw]
        have ee : enc u (nI 2) (m (tb u + 2 + 2 * k)) = nI 20033 := by unfold enc; rw [if_neg (by decide), if_neg (by decide), if_pos (show nI 2 = (2 : Int32) from rfl)]; rfl
        rw [ee, k10000, k20000, if_pos (nI_le (by omega) (by omega)), if_pos (nI_le (by omega) (by omega)), nI_sub (by omega)]
        unfold f_X7_workSign
        rw [hp, bnd2_some, if_pos (show nI (20033 - 20000) = (33 : Int32) from rfl), show v + 5 + 1 = v + 6 from rfl]
        by_cases c : s.1 (v + 6) d = 0
        · rw [if_pos c, if_pos c, h27, bnd_some, hx]
        · rw [if_neg c, if_neg c, h27, bnd_some, hx]
      · rw [ed] at hi
        rw [pt_nek (by omega), pt_same, pt_nek (by omega)]
        have ex : evS m u nm k a = upd a d (if a d = 0 then 1 else 0) := by unfold evS; rw [if_neg (by omega), if_neg (by omega), if_pos hw, show dpt m u k - 1 = d by omega]
        rw [ex]
        by_cases ei : i = d
        · subst ei; rw [upd_same, upd_same, r4 i (by omega)]
        · rw [upd_ne ei, upd_ne ei]; exact r4 i (by omega)
    · obtain ⟨hd, hsg⟩ := t6 hw
      obtain ⟨d, ed0⟩ : ∃ d, dpt m u k = d + 1 + 1 := ⟨dpt m u k - 2, by omega⟩
      have ed : dpt m u (k + 1) = d + 1 := by rw [dpt, if_neg (by omega), if_neg (by omega), ed0]; rfl
      obtain ⟨c, hc1, hc2, hc3⟩ := sg_n hsg
      have hp := p_pop (hs _ ed0)
      have hs1 : RW (pt s (v + 5) 1 (nI (d + 1))) (v + 5) (d + 1) := ⟨by rw [pt_at], by rw [show v + 5 + 1 = v + 6 from rfl, hl.2.2]; omega, by rw [show v + 5 + 1 = v + 6 from rfl, hl.2.2]; decide⟩
      have hp1 := p_pop hs1
      refine ⟨pt (pt (pt (pt s (v + 5) 1 (nI (d + 1))) (v + 5) 1 (nI d)) (v + 6) d (jo (m (tb u + 2 + 2 * k)) (s.1 (v + 6) d) (s.1 (v + 6) (d + 1)))) (v + 5) 1 (nI (d + 1)), ?_, fun q a b => by rw [pt_nek a, pt_nek b, pt_nek a, pt_nek a]; exact r1 q a b, r2, by rw [pt_at, ed], fun i hi => ?_⟩
      · show f_X7_work_10 N (f + 1) s v (nI k) = _
        rw [f_X7_work_10, p_size hc', bnd_some, if_neg (nI_ge hkn (by omega)), hat, bnd_some, hw]
        have ee : enc u (nI 3) (m (tb u + 2 + 2 * k)) = nI (20000 + c) := by unfold enc; rw [if_neg (by decide), if_neg (by decide), if_neg (by decide), hc3, k20000, nI_add]
        rw [ee, k10000, k20000, if_pos (nI_le (by omega) (by omega)), if_pos (nI_le (by omega) (by omega)), nI_sub (by omega), show 20000 + c - 20000 = c by omega]
        unfold f_X7_workSign
        rw [hp, bnd2_some, if_neg (show ¬ nI c = (33 : Int32) from fun e => hc2 ((nI_eq (by omega) (by omega)).mp (show nI c = nI 33 from e))), hp1, bnd2_some, cJoined, bnd_some, show v + 5 + 1 = v + 6 from rfl, pt_nek (by omega), hadd _ d _ (by omega) (by rw [pt_at]), bnd_some, bnd_some, hx, hc3]
      · rw [ed] at hi
        rw [pt_nek (by omega), pt_same, pt_nek (by omega), pt_nek (by omega)]
        have ex : evS m u nm k a = upd a d (jo (m (tb u + 2 + 2 * k)) (a d) (a (d + 1))) := by unfold evS; rw [if_neg (by omega), if_neg (by omega), if_neg (by omega), show dpt m u k - 2 = d by omega, show dpt m u k - 1 = d + 1 by omega]
        rw [ex]
        by_cases ei : i = d
        · subst ei; rw [upd_same, upd_same, r4 i (by omega), r4 (i + 1) (by omega)]
        · rw [upd_ne ei, upd_ne ei]; exact r4 i (by omega)
  obtain ⟨s', f', e1, e2⟩ := loopR (fun f k s => f_X7_work_10 N f s v (nI k)) (RS S m u v) (evS m u nm) (w m (tb u)) hstep (w m (tb u)) 0 N (pt S (v + 5) 1 0) (fun _ => 0) ⟨fun q a b => pt_nek a, rfl, by rw [pt_at]; rfl, fun i hi => absurd hi (Nat.not_lt_zero _)⟩ (by omega) (by omega)
  refine ⟨s', ?_, e2.1, e2.2.1⟩
  have hc' : RW s' (v + 1) (w m (tb u)) := ⟨by rw [e2.1 _ (by omega) (by omega)]; exact hc, by rw [show v + 1 + 1 = v + 2 from rfl, hl.1]; exact hn60, by rw [show v + 1 + 1 = v + 2 from rfl, hl.1]; decide⟩
  have h1 := hT.2.2.1 hn
  have hs : RW s' (v + 5) (0 + 1) := ⟨by rw [e2.2.2.1, h1], by rw [show v + 5 + 1 = v + 6 from rfl, hl.2.2]; decide, by rw [show v + 5 + 1 = v + 6 from rfl, hl.2.2]; decide⟩
  rw [show f_X7_work_10 N N (pt S (v + 5) 1 0) v 0 = _ from e1]
  show f_X7_work_10 N (f' + 1) s' v (nI (w m (tb u))) = _
  rw [f_X7_work_10, p_size hc', bnd_some, if_pos (nI_le (Nat.le_refl _) (by omega)), p_last hs, bnd_some, show v + 5 + 1 = v + 6 from rfl, e2.2.2.2 0 (by omega)]
  rfl
