/-! part: the tries -/
theorem mHeld0 {N : Nat} (hN : 100 < N) {S : St} {m : Nat → Int32} (hM : S.1 173 = m) (hW : WF m) : f_X12_townOf N S 0 = some (heldM m) := by
  have hi2 := hW.nt.2
  have hk2 := hW.nk.2
  have hz : S.1 173 1 = nI (w m 1) := by rw [hM]; exact hW.nt.1
  have hz2 : S.1 173 2 = nI (w m 2) := by rw [hM]; exact hW.nk.1
  have h2 : ∀ a, f_X12_sumOf_80 N S N 0 a 0 = some (lp (fun k a => a + (if hb m k < 0 then 0 else m (94 + 3 * k))) (w m 2) 0 a) := by
    intro a0
    refine loopI (fun f i a => f_X12_sumOf_80 N S f 0 a (nI i)) (fun k a => a + (if hb m k < 0 then 0 else m (94 + 3 * k))) some (w m 2) (fun f a => ?_) (fun f i a hi => ?_) (w m 2) 0 N a0 (by omega) (by omega)
    · show f_X12_sumOf_80 N S (f + 1) 0 a (nI (w m 2)) = _
      rw [f_X12_sumOf_80, hz2, if_pos (nI_le (Nat.le_refl _) (by omega))]
    · show f_X12_sumOf_80 N S (f + 1) 0 a (nI i) = f_X12_sumOf_80 N S f 0 _ (nI (i + 1))
      rw [f_X12_sumOf_80, hz2, if_neg (nI_ge hi (by omega)), if_pos rfl, mHb hM hW hi, bnd_some, mBonus hM (by omega), bnd_some]
      unfold f_X12_sumOf_113
      rw [nI_1]
      by_cases c : hb m i < 0
      · rw [if_neg (Int32.not_le.mpr c), if_pos c]
      · rw [if_pos (Int32.not_lt.mp c), if_neg c]
  have h3 : f_X12_sumOf N S 0 = some (heldM m) := by
    refine loopI (fun f i a => f_X12_sumOf_4 N S f 0 a (nI i)) (fun i a => a + nI (val m (own m i) i)) (fun a => some (lp (fun k a => a + (if hb m k < 0 then 0 else m (94 + 3 * k))) (w m 2) 0 a)) (w m 1) (fun f a => ?_) (fun f i a hi => ?_) (w m 1) 0 N 0 (by omega) (by omega)
    · show f_X12_sumOf_4 N S (f + 1) 0 a (nI (w m 1)) = _
      rw [f_X12_sumOf_4, hz, if_pos (nI_le (Nat.le_refl _) (by omega)), h2]
    · show f_X12_sumOf_4 N S (f + 1) 0 a (nI i) = f_X12_sumOf_4 N S f 0 _ (nI (i + 1))
      rw [f_X12_sumOf_4, hz, if_neg (nI_ge hi (by omega)), if_pos rfl, mOwnV hM hW (by omega), bnd_some, mVal hM hW (own_lt hW hi).2 (by omega), bnd_some]
      unfold f_X12_sumOf_70
      rw [nI_1]
  unfold f_X12_townOf
  rw [if_neg (by decide), if_neg (by decide), if_neg (by decide), h3, bnd_some]
/-- the model's copy, with what lies past the 516 -/
theorem mLay2 {N : Nat} (hN : 1000 < N) {S : St} {v0 v1 : Nat} (h0 : ln v0 = 516) (h1 : ln v1 = 516) (hne : v0 ≠ v1) : ∃ S', f_X12_lay N S v0 v1 = some S' ∧ (∀ q, q ≠ v1 → S'.1 q = S.1 q) ∧ (∀ x, x < 516 → S'.1 v1 x = S.1 v0 x) ∧ ∀ x, 516 ≤ x → S'.1 v1 x = S.1 v1 x := by
  have hstep : ∀ (f i : Nat) (s : St) (a : Unit), i < 516 → ((∀ q, q ≠ v1 → s.1 q = S.1 q) ∧ (∀ x, x < i → s.1 v1 x = S.1 v0 x) ∧ ∀ x, 516 ≤ x → s.1 v1 x = S.1 v1 x) → ∃ s', f_X12_lay_2 N (f + 1) s v0 v1 (nI i) = f_X12_lay_2 N f s' v0 v1 (nI (i + 1)) ∧ ((∀ q, q ≠ v1 → s'.1 q = S.1 q) ∧ (∀ x, x < i + 1 → s'.1 v1 x = S.1 v0 x) ∧ ∀ x, 516 ≤ x → s'.1 v1 x = S.1 v1 x) := by
    intro f i s _ hi hR
    obtain ⟨r1, r2, r3⟩ := hR
    refine ⟨pt s v1 i (S.1 v0 i), ?_, fun q hq => by rw [pt_nek hq]; exact r1 q hq, fun x hx => ?_, fun x hx => ?_⟩
    · rw [f_X12_lay_2, k516, if_neg (nI_ge hi (by decide)), h0, h1, if_pos (inb_nI hi (by decide)), if_pos (inb_nI hi (by decide)), nI_clamp (by omega), r1 v0 hne, nI_1]
    · by_cases e : x = i
      · subst e; rw [pt_at]
      · rw [pt_nej e]; exact r2 x (by omega)
    · rw [pt_nej (by omega)]; exact r3 x hx
  obtain ⟨s', f', e1, e2⟩ := loopR (fun f i s => f_X12_lay_2 N f s v0 v1 (nI i)) (fun i s (_ : Unit) => (∀ q, q ≠ v1 → s.1 q = S.1 q) ∧ (∀ x, x < i → s.1 v1 x = S.1 v0 x) ∧ ∀ x, 516 ≤ x → s.1 v1 x = S.1 v1 x) (fun _ a => a) 516 hstep 516 0 N S () ⟨fun _ _ => rfl, fun x hx => absurd hx (Nat.not_lt_zero _), fun _ _ => rfl⟩ (by omega) (by omega)
  refine ⟨s', ?_, e2⟩
  unfold f_X12_lay
  refine e1.trans ?_
  show f_X12_lay_2 N (f' + 1) s' v0 v1 (nI 516) = _
  rw [f_X12_lay_2, k516, if_pos (nI_le (Nat.le_refl _) (by decide))]
def mp (m : Nat → Int32) (n p : Nat) : Nat → Int32 := lp (fun _ => yrS) n 0 (upd m 10 (nI p))
def hv (m : Nat → Int32) (n p : Nat) : Int32 := heldM (mp m n p)
theorem mp_wf {m : Nat → Int32} (hW : WF m) {p : Nat} (hp : p ≤ 30) : WF (upd m 10 (nI p)) := hW.set rfl (by decide) (by decide) (show p < 100 by omega) (fun j e => by omega) (fun j e => by omega) (fun j e => by omega)
/-- the class's world while parts are tried -/
def PR (S s : St) : Prop := FrC 55 S s ∧ s.1 87 1 = nI 5 ∧ s.1 94 1 = nI 5
theorem cTry {N : Nat} (hN : 1000 < N) {S s : St} (h : IV S) (hs : PR S s) {n p : Nat} (hn : n ≤ 40) (hp : p ≤ 30) : ∃ s1 s2 s3, f_X9_copy s 55 8 = some s1 ∧ f_X5_set s1 82 0 (nI p) = some s2 ∧ f_X0_goBy N s2 55 (nI n) = some s3 ∧ f_X9_held N s3 55 = some (hv (S.1 173) n p) ∧ PR S s3 := by
  have hW := h.1.2.1
  have r8 : RT s 8 (S.1 173) := h.1.1.fr (fun q x1 x2 => hs.1 q (Or.inr (by omega)) (by omega))
  obtain ⟨s1, a1, b1, c1⟩ := cCopy r8 hW (Or.inl rfl) (Or.inr (Or.inl rfl)) (by decide) hs.2.1 hs.2.2
  have a2 : f_X5_set s1 82 0 (nI p) = some (pt s1 83 0 (nI p)) := cSet c1 hW (Or.inr (Or.inl rfl)) (k := 12) (i := 0) (by decide) (show 0 < 5 by decide) rfl (nI p)
  have c2 : RT (pt s1 83 0 (nI p)) 55 (upd (S.1 173) 10 (nI p)) := c1.put hW (k := 12) (i := 0) (x := 10) (by decide) (show 0 < 5 by decide) rfl rfl _
  have hW2 := mp_wf hW hp
  obtain ⟨s3, a3, b3, c3⟩ := cGo (N := N) (by omega) (S := pt s1 83 0 (nI p)) (Or.inr (Or.inl rfl)) ⟨FrC.refl, c2⟩ hW2 (n := n) (by omega) (by omega)
  refine ⟨s1, _, s3, a1, a2, a3, cHeld (by omega) b3.2 c3.1 (Or.inr (Or.inl rfl)), ?_, b3.2.2.1.2.2, b3.2.2.2.1.2.2⟩
  exact ((hs.1.trans b1).pt (Or.inl (by decide))).trans b3.1
/-- the model's world while parts are tried -/
def PM (S s : St) (m : Nat → Int32) : Prop := (∀ q, q ≠ 173 → q ≠ 175 → q ≠ 178 → q ≠ 179 → s.1 q = S.1 q) ∧ s.1 173 = m ∧ ∀ x, x < 516 → s.1 175 x = m x
theorem mTry {N : Nat} (hN : 1000 < N) {S s : St} {m : Nat → Int32} (hW : WF m) (hs : PM S s m) {n p : Nat} (hn : n ≤ 40) (hp : p ≤ 30) : ∃ s1 s2, f_X12_go N (pt s 173 10 (nI p)) (nI n) = some s1 ∧ f_X12_townOf N s1 0 = some (hv m n p) ∧ f_X12_lay N s1 175 173 = some s2 ∧ PM S s2 m := by
  have hW2 := mp_wf hW hp
  have e1 : (pt s 173 10 (nI p)).1 173 = upd m 10 (nI p) := by rw [pt_same, hs.2.1]
  obtain ⟨s1, a1, b1⟩ := mGo (N := N) (by omega) (S := pt s 173 10 (nI p)) (S0 := pt s 173 10 (nI p)) (n := n) ⟨fun _ _ _ _ => rfl, rfl, e1⟩ hW2 (by omega) (by omega)
  have hk := go_keep (n := n) hW2
  obtain ⟨s2, a2, b2, c2, d2⟩ := mLay2 hN (S := s1) (v0 := 175) (v1 := 173) rfl rfl (by decide)
  have e175 : s1.1 175 = s.1 175 := by rw [b1.1 175 (by decide) (by decide) (by decide), pt_nek (by decide)]
  refine ⟨s1, s2, a1, mHeld0 (by omega) b1.2.2 hk.2.2.1, a2, fun q x1 x2 x3 x4 => by rw [b2 q x1, b1.1 q x1 x3 x4, pt_nek x1]; exact hs.1 q x1 x2 x3 x4, funext fun x => ?_, fun x hx => by rw [b2 175 (by decide), e175]; exact hs.2.2 x hx⟩
  by_cases c : x < 516
  · rw [c2 x c, e175]; exact hs.2.2 x c
  · rw [d2 x (by omega), b1.2.2, hk.2.1 x (by omega), upd_ne (by omega)]
def gP (m : Nat → Int32) (n p : Nat) (a : Int32 × Int32) : Int32 × Int32 := if hv m n p ≤ a.2 then a else (nI p, hv m n p)
theorem K_part {N : Nat} (hN : 1000 < N) {S : St} (h : IV S) (v1 : Int32) : CC S (fun s => f_X11_part N s v1) (fun s => f_X12_part N s v1) := by
  have hW := h.1.2.1
  refine CC.gw 40 h rfl (by decide) (fun _ => rfl) (fun _ => rfl) (fun n hn e => ?_)
  subst e
  have hnn : ¬ hv (S.1 173) n 0 ≤ -1 := by
    obtain ⟨k, a, b⟩ := held_n (go_keep (n := n) (mp_wf hW (p := 0) (by decide))).2.2.1
    have : hv (S.1 173) n 0 = nI k := b
    rw [this, Int32.le_iff_toInt_le, nI_toInt (by omega), show (-1 : Int32).toInt = -1 from by decide]; omega
  -- the class
  have cstep : ∀ (f p : Nat) (s : St × Int32 × Int32) (a : Int32 × Int32), p < 31 → (PR S s.1 ∧ s.2 = a) → ∃ s' : St × Int32 × Int32, f_X11_part_22 N (f + 1) s.1 (nI n) s.2.1 s.2.2 (nI p) = f_X11_part_22 N f s'.1 (nI n) s'.2.1 s'.2.2 (nI (p + 1)) ∧ (PR S s'.1 ∧ s'.2 = gP (S.1 173) n p a) := by
    intro f p s a hp hR
    obtain ⟨r1, rfl⟩ := hR
    obtain ⟨s1, s2, s3, a1, a2, a3, a4, a5⟩ := cTry hN h r1 hn (show p ≤ 30 by omega)
    refine ⟨(s3, gP (S.1 173) n p s.2), ?_, a5, rfl⟩
    rw [f_X11_part_22, k30, if_neg (nI_nlt (by omega) (by decide)), a1, bnd_some, a2, bnd_some, a3, bnd_some, a4, bnd_some]
    unfold gP f_X11_part_82
    rw [nI_1]
    by_cases c : hv (S.1 173) n p ≤ s.2.2
    · rw [if_pos c, if_pos c]
    · rw [if_neg c, if_neg c]
  obtain ⟨s0, g0, e0, r0⟩ : ∃ s0 g0, f_X11_part_22 N N S (nI n) 0 (-1) 0 = f_X11_part_22 N g0 s0 (nI n) 0 (hv (S.1 173) n 0) (nI 1) ∧ PR S s0 ∧ 900 < g0 := by
    obtain ⟨g, eg⟩ : ∃ g, N = g + 1 := ⟨N - 1, by omega⟩
    obtain ⟨s', b1, b2, b3⟩ := cstep g 0 (S, 0, -1) (0, -1) (by decide) ⟨⟨FrC.refl, h.2.2.2.2.2.1, h.2.2.2.2.2.2.1⟩, rfl⟩
    have hg : s'.2 = (nI 0, hv (S.1 173) n 0) := by rw [b3]; unfold gP; rw [if_neg hnn]
    refine ⟨s'.1, g, ?_, b2, by omega⟩
    have b1' : f_X11_part_22 N (g + 1) S (nI n) 0 (-1) 0 = f_X11_part_22 N g s'.1 (nI n) s'.2.1 s'.2.2 (nI (0 + 1)) := b1
    rw [hg] at b1'
    rw [show f_X11_part_22 N N S (nI n) 0 (-1) 0 = f_X11_part_22 N (g + 1) S (nI n) 0 (-1) 0 from by rw [← eg]]
    exact b1'
  obtain ⟨r0, hg0⟩ := r0
  obtain ⟨sc, fc, ec, rc⟩ := loopR (fun f p (s : St × Int32 × Int32) => f_X11_part_22 N f s.1 (nI n) s.2.1 s.2.2 (nI p)) (fun _ s a => PR S s.1 ∧ s.2 = a) (gP (S.1 173) n) 31 cstep 30 1 g0 (s0, 0, hv (S.1 173) n 0) (0, hv (S.1 173) n 0) ⟨r0, rfl⟩ (by omega) (by omega)
  have hc : f_X11_part_22 N N S (nI n) 0 (-1) 0 = some ((lp (gP (S.1 173) n) 30 1 (0, hv (S.1 173) n 0)).1, sc.1) := by
    rw [e0]
    refine Eq.trans ec ?_
    show f_X11_part_22 N (fc + 1) sc.1 (nI n) sc.2.1 sc.2.2 (nI 31) = _
    rw [f_X11_part_22, if_pos (show (30 : Int32) < nI 31 by decide), rc.2]
  -- the model
  have e1 : sc.1.1 173 = S.1 173 := rc.1.1 173 (Or.inr (by decide)) (by decide)
  obtain ⟨L1, l1, l2, l3, l4⟩ := mLay hN (S := sc.1) (v0 := 173) (v1 := 175) rfl rfl (by decide)
  have hL : PM L1 L1 (S.1 173) := ⟨fun _ _ _ _ _ => rfl, by rw [l2 173 (by decide)]; exact e1, fun x hx => by rw [l4 x hx, e1]⟩
  have mstep : ∀ (f p : Nat) (s : St × Int32 × Int32) (a : Int32 × Int32), p < 31 → (PM L1 s.1 (S.1 173) ∧ s.2 = a ∧ ∃ b, b < p ∧ a.1 = nI b) → ∃ s' : St × Int32 × Int32, f_X12_part_34 N (f + 1) s.1 (nI n) s.2.1 s.2.2 (nI p) = f_X12_part_34 N f s'.1 (nI n) s'.2.1 s'.2.2 (nI (p + 1)) ∧ (PM L1 s'.1 (S.1 173) ∧ s'.2 = gP (S.1 173) n p a ∧ ∃ b, b < p + 1 ∧ (gP (S.1 173) n p a).1 = nI b) := by
    intro f p s a hp hR
    obtain ⟨r1, rfl, b, hb1, hb2⟩ := hR
    obtain ⟨s1, s2, a1, a2, a3, a4⟩ := mTry hN hW r1 hn (show p ≤ 30 by omega)
    refine ⟨(s2, gP (S.1 173) n p s.2), ?_, a4, rfl, ?_⟩
    · rw [f_X12_part_34, k30, if_neg (nI_nlt (by omega) (by decide)), a1, bnd_some, a2, bnd_some, a3, bnd_some, if_neg (show ¬ s.2.1 < 0 from by rw [hb2]; exact nI_pos (by omega))]
      unfold gP f_X12_part_83 f_X12_part_89 f_X12_part_102
      rw [nI_1]
      by_cases c : hv (S.1 173) n p ≤ s.2.2
      · rw [if_pos c, if_pos c, if_neg (show ¬ s.2.1 = nI p from by rw [hb2]; exact fun e => by have := (nI_eq (by omega) (by omega)).mp e; omega)]
      · rw [if_neg c, if_neg c, if_pos rfl]
    · unfold gP
      by_cases c : hv (S.1 173) n p ≤ s.2.2
      · rw [if_pos c]; exact ⟨b, by omega, hb2⟩
      · rw [if_neg c]; exact ⟨p, by omega, rfl⟩
  obtain ⟨M0, h0, em0, rm0, hh0⟩ : ∃ M0 h0, f_X12_part_34 N N L1 (nI n) (-1) 0 0 = f_X12_part_34 N h0 M0 (nI n) 0 (hv (S.1 173) n 0) (nI 1) ∧ PM L1 M0 (S.1 173) ∧ 900 < h0 := by
    obtain ⟨g, eg⟩ : ∃ g, N = g + 1 := ⟨N - 1, by omega⟩
    obtain ⟨s1, s2, a1, a2, a3, a4⟩ := mTry hN hW hL hn (show 0 ≤ 30 by omega)
    refine ⟨s2, g, ?_, a4, by omega⟩
    rw [show f_X12_part_34 N N L1 (nI n) (-1) 0 0 = f_X12_part_34 N (g + 1) L1 (nI n) (-1) 0 (nI 0) from by rw [← eg]; rfl, f_X12_part_34, if_neg (show ¬ (30 : Int32) < nI 0 by decide), a1, bnd_some, a2, bnd_some, a3, bnd_some, if_pos (by decide)]
    unfold f_X12_part_83 f_X12_part_89 f_X12_part_102
    rw [if_pos rfl, nI_1]; rfl
  obtain ⟨sm, fm, em, rm⟩ := loopR (fun f p (s : St × Int32 × Int32) => f_X12_part_34 N f s.1 (nI n) s.2.1 s.2.2 (nI p)) (fun p s a => PM L1 s.1 (S.1 173) ∧ s.2 = a ∧ ∃ b, b < p ∧ a.1 = nI b) (gP (S.1 173) n) 31 mstep 30 1 h0 (M0, 0, hv (S.1 173) n 0) (0, hv (S.1 173) n 0) ⟨rm0, rfl, 0, by decide, rfl⟩ (by omega) (by omega)
  have hmm : f_X12_part_34 N N L1 (nI n) (-1) 0 0 = some ((lp (gP (S.1 173) n) 30 1 (0, hv (S.1 173) n 0)).1, sm.1) := by
    rw [em0]
    refine Eq.trans em ?_
    show f_X12_part_34 N (fm + 1) sm.1 (nI n) sm.2.1 sm.2.2 (nI 31) = _
    rw [f_X12_part_34, if_pos (show (30 : Int32) < nI 31 by decide), rm.2.1]
  have fm' : ∀ q, q ≠ 173 → q ≠ 175 → q ≠ 178 → q ≠ 179 → sm.1.1 q = sc.1.1 q := fun q x1 x2 x3 x4 => by rw [rm.1.1 q x1 x2 x3 x4, l2 q x2]
  have e173 : sm.1.1 173 = S.1 173 := rm.1.2.1
  refine ⟨_, sc.1, sm.1, hc, fun q hq => rc.1.1 q (Or.inr (by omega)) (by omega), ?_, h.tw (fun q x1 x2 x3 x4 x5 x6 x7 x8 x9 => by rw [fm' q x4 x5 x7 x8, rc.1.1 q (by omega) (by omega)]) ?_ ?_ ?_ ?_ ⟨?_, ?_, ?_⟩⟩
  · (try dsimp only)
    rw [l1, bnd_some]; exact hmm
  · rw [fm' 172 (by decide) (by decide) (by decide) (by decide), rc.1.1 172 (Or.inr (by decide)) (by decide)]
  · rw [fm' 172 (by decide) (by decide) (by decide) (by decide), rc.1.1 172 (Or.inr (by decide)) (by decide)]
  · rw [fm' 87 (by decide) (by decide) (by decide) (by decide)]; exact rc.1.2.1
  · rw [fm' 94 (by decide) (by decide) (by decide) (by decide)]; exact rc.1.2.2
  · rw [e173]; exact h.1.1.fr (fun q x1 x2 => by rw [fm' q (by omega) (by omega) (by omega) (by omega), rc.1.1 q (Or.inr (by omega)) (by omega)])
  · rw [e173]; exact hW
  · rw [e173]; exact h.1.2.2
