/-! worths -/
def wrS (nu : Nat → Int32) (p : Nat) : Nat → Nat → (Nat → Int32) → Nat × (Nat → Int32)
  | 0, i, a => (i, a)
  | k + 1, i, a => if wi (nu i) 9999 = 0 then (i, a) else wrS nu p k (i + 1) (upd a (110 + (12 * p + i)) (nu i))
theorem wr_wf {m a : Nat → Int32} (h : WS m a) {p i : Nat} {v : Int32} (hp : p < 6) (hi : i < 12) (hv : ¬ wi v 9999 = 0) : WS m (upd a (110 + (12 * p + i)) v) := by
  rcases wi_n (v := v) (n := 9999) (by decide) with e | ⟨b, hb, rfl, _⟩
  · exact absurd e hv
  · have h6 := h.1.np.2
    have h7 := h.1.nk.2
    have h8 := h.1.nt.2
    exact h.set (by omega) (h.1.set rfl (by omega) (by omega) (by rw [l_worth _ (by omega)]; omega) (fun j e => by omega) (fun j e => by omega) (fun j e => by omega))
theorem wrS_wf {m : Nat → Int32} {nu : Nat → Int32} {p : Nat} (hp : p < 6) : ∀ (k i : Nat) (a : Nat → Int32), WS m a → i + k ≤ 12 → WS m (wrS nu p k i a).2 ∧ (wrS nu p k i a).2 3 = a 3 ∧ (wrS nu p k i a).1 ≤ i + k := by
  intro k
  induction k with
  | zero => intro i a h _; exact ⟨h, rfl, Nat.le_refl _⟩
  | succ k ih =>
    intro i a h hi
    have er : wrS nu p (k + 1) i a = if wi (nu i) 9999 = 0 then (i, a) else wrS nu p k (i + 1) (upd a (110 + (12 * p + i)) (nu i)) := rfl
    rw [er]
    by_cases c : wi (nu i) 9999 = 0
    · rw [if_pos c]; exact ⟨h, rfl, by show i ≤ i + (k + 1); omega⟩
    · rw [if_neg c]
      have := ih (i + 1) _ (wr_wf (i := i) h hp (by omega) c) (by omega)
      exact ⟨this.1, by rw [this.2.1, upd_ne (by omega)], by have := this.2.2; omega⟩
theorem cWorths {N : Nat} {S : St} {m : Nat → Int32} {nu : Nat → Int32} {p q n mn : Nat} (hp : p < 6) (hq : q < 4) (hn : n ≤ 24) (hmn : mn ≤ n ∧ mn ≤ w m 1) (h12 : w m 1 < 13) (hs : S.1 (159 + 3 * q) 1 = nI n) (hu : ∀ j, j < n → S.1 (160 + 3 * q) j = nu j) : ∀ (k i f : Nat) (s : St) (a : Nat → Int32), i + k = mn → k < f → CR S 8 s a → WS m a → ∃ s', f_X11_worths_62 N f s (nI p) (158 + 3 * q) (nI mn) (nI i) = some (nI (wrS nu p k i a).1, s') ∧ CR S 8 s' (wrS nu p k i a).2 := by
  intro k
  induction k with
  | zero =>
    intro i f s a h1 h2 h3 h4
    obtain ⟨f, rfl⟩ := fuel h2
    refine ⟨s, ?_, h3⟩
    rw [f_X11_worths_62, if_pos (nI_le (by omega) (by omega)), show mn = i by omega]
    rfl
  | succ k ih =>
    intro i f s a h1 h2 h3 h4
    obtain ⟨f, rfl⟩ := fuel h2
    have fq : ∀ x, 158 ≤ x → s.1 x = S.1 x := fun x hx => h3.1 x (Or.inr (by omega)) (by omega)
    have hr : RW s (158 + 3 * q + 1) n := ⟨by rw [fq _ (by omega), show 158 + 3 * q + 1 = 159 + 3 * q by omega]; exact hs, by rw [show 158 + 3 * q + 1 + 1 = 160 + 3 * q by omega, ln_sh hq]; exact hn, by rw [show 158 + 3 * q + 1 + 1 = 160 + 3 * q by omega, ln_sh hq]; decide⟩
    have hat : f_X5_at s (158 + 3 * q + 1) (nI i) = some (nu i) := by
      rw [p_at hr (by omega), show 158 + 3 * q + 1 + 1 = 160 + 3 * q by omega, fq _ (by omega), hu i (by omega)]
    have er : wrS nu p (k + 1) i a = if wi (nu i) 9999 = 0 then (i, a) else wrS nu p k (i + 1) (upd a (110 + (12 * p + i)) (nu i)) := rfl
    rw [f_X11_worths_62, if_neg (nI_ge (by omega) (by omega)), hat, bnd_some, cIn, bnd_some, er]
    by_cases c : wi (nu i) 9999 = 0
    · rw [if_pos c, if_pos c]
      exact ⟨s, rfl, h3⟩
    · rw [if_neg c, if_neg c]
      have h8 : RW s 27 72 := h3.2.row h4.1 (Or.inl rfl) (k := 8) (by decide)
      have h9 : RT (pt s 28 (12 * p + i) (nu i)) 8 (upd a (110 + (12 * p + i)) (nu i)) := h3.2.put h4.1 (k := 8) (i := 12 * p + i) (by decide) (show 12 * p + i < 72 by omega) (by unfold cel; simp [bas, stp]) rfl _
      obtain ⟨s', a1, a2⟩ := ih (i + 1) f (pt s 28 (12 * p + i) (nu i)) _ (by omega) (by omega) ⟨h3.1.pt (Or.inl (by decide)), h9⟩ (wr_wf h4 hp (by omega) c)
      refine ⟨s', ?_, a2⟩
      rw [cSetW, p_swap h8 (by omega), bnd2_some, bnd2_some, nI_1]
      exact a1
theorem mWorths {N : Nat} {S : St} {m : Nat → Int32} {nu : Nat → Int32} {p q n mn : Nat} (hp : p < 6) (hq : q < 4) (hn : n ≤ 24) (hmn : mn = if w m 1 < n then w m 1 else n) (h12 : w m 1 < 13) (hs : S.1 182 q = nI n) (hu : ∀ j, j < n → S.1 183 (24 * q + j) = nu j) : ∀ (k i f : Nat) (s : St) (a : Nat → Int32), i + k = mn → k < f → (∀ x, x ≠ 173 → s.1 x = S.1 x) → s.1 173 = a → WS m a → ∃ s', f_X12_worths_35 N f s (nI q) (nI p) (nI i) = some (nI (wrS nu p k i a).1, s') ∧ (∀ x, x ≠ 173 → s'.1 x = S.1 x) ∧ s'.1 173 = (wrS nu p k i a).2 := by
  have hm2 : mn ≤ n ∧ mn ≤ w m 1 ∧ (mn = n ∨ mn = w m 1) := by rw [hmn]; split <;> omega
  intro k
  induction k with
  | zero =>
    intro i f s a h1 h2 h3 h4 h5
    obtain ⟨f, rfl⟩ := fuel h2
    refine ⟨s, ?_, h3, h4⟩
    rw [f_X12_worths_35, if_pos (inb_nI hq (by decide)), nI_clamp (by omega), h3 182 (by decide), hs]
    by_cases c : n ≤ i
    · rw [if_pos (nI_le c (by omega))]; rfl
    · rw [if_neg (nI_ge (by omega) (by omega)), mIsT h4 h5.1, bnd_some, h5.2.2.1]
      have : wi (nI i) (nI (w m 1) - 1) = 0 := by
        rcases wi_p (v := nI i) (n := w m 1) (by omega) with e | ⟨j, hj, ej, _⟩
        · exact e
        · have := (nI_eq (by omega) (by omega)).mp ej
          omega
      rw [this, if_pos rfl]; rfl
  | succ k ih =>
    intro i f s a h1 h2 h3 h4 h5
    obtain ⟨f, rfl⟩ := fuel h2
    have er : wrS nu p (k + 1) i a = if wi (nu i) 9999 = 0 then (i, a) else wrS nu p k (i + 1) (upd a (110 + (12 * p + i)) (nu i)) := rfl
    have e24 : (24 : Int32) * nI q + nI i = nI (24 * q + i) := by rw [k24, pk_mul, nI_add]
    have e110 : (110 : Int32) + 12 * nI p + nI i = nI (110 + (12 * p + i)) := by rw [k110, k12, pk_mul, nI_add, nI_add]; congr 1; omega
    rw [f_X12_worths_35, if_pos (inb_nI hq (by decide)), nI_clamp (n := q) (by omega), h3 182 (by decide), hs, if_neg (nI_ge (by omega) (by omega)), mIsT h4 h5.1, bnd_some, h5.2.2.1, wi_inp (by omega) (by omega), if_neg (by decide), e24, if_pos (inb_nI (by omega) (by decide)), nI_clamp (n := 24 * q + i) (by omega), h3 183 (by decide), hu i (by omega), mIn, bnd_some, er]
    by_cases c : wi (nu i) 9999 = 0
    · rw [if_pos c, if_pos c]
      exact ⟨s, rfl, h3, h4⟩
    · rw [if_neg c, if_neg c, if_pos (inb_nI (by omega) (by decide)), e110, if_pos (inb_nI (by omega) (by decide)), nI_clamp (n := 110 + (12 * p + i)) (by omega), nI_1]
      exact ih (i + 1) f _ _ (by omega) (by omega) (fun x hx => by rw [pt_nek hx]; exact h3 x hx) (by rw [pt_same, h4]) (wr_wf h5 hp (by omega) c)
theorem K_worths {N : Nat} (hN : 100 < N) {S : St} (h : IV S) (v1 v2 : Int32) : CC S (fun s => f_X11_worths N s v1 v2) (fun s => f_X12_worths N s v1 v2) := by
  have hT := h.1.1
  have hW := h.1.2.1
  have hi2 := hW.nt.2
  have hp6 := hW.np.2
  rcases shAt v1 with ⟨e1, e2⟩ | ⟨q, hq, rfl, e1, e6, e2⟩
  · refine CC.err h (k := 1) (φ := fun a => a) (by decide) ?_ ?_
    · show f_X11_worths N S v1 v2 = _
      unfold f_X11_worths
      rw [e1, bnd_some, oeN]; rfl
    · show f_X12_worths N (E1 S 1) v1 v2 = _
      unfold f_X12_worths
      rw [e2, bnd_some, if_pos rfl]; rfl
  · rcases wi_p (v := v2) (n := w (S.1 173) 0) (by omega) with e | ⟨p, hp, rfl, e⟩
    · refine CC.err h (k := 1) (φ := fun a => a) (by decide) ?_ ?_
      · show f_X11_worths N S (nI q) v2 = _
        unfold f_X11_worths
        rw [e1, bnd_some, oeS, if_pos e6, cIsP hT hW, bnd_some, e, if_pos rfl]; rfl
      · show f_X12_worths N (E1 S 1) (nI q) v2 = _
        unfold f_X12_worths
        rw [e2, bnd_some, if_neg (by decide), mIsP (m := S.1 173) (E1_nek (by decide)) hW, bnd_some, e, if_pos rfl]; rfl
    · obtain ⟨n, hn, b1, b2, b3, b4, b5⟩ := h.2.2.2.2.1 q hq
      have hmi := cMiss (S := S) (a := 158 + 3 * q) b1
      by_cases z : S.1 181 q = 0
      · refine ⟨-1000000000 - nI 2, E1 S 2, E2 (E1 S 2) 2, ?_, fun x hx => E1_nek (by omega), ?_, h.err⟩
        · show f_X11_worths N S (nI q) (nI p) = _
          unfold f_X11_worths
          rw [e1, bnd_some, oeS, if_pos e6, cIsP hT hW, bnd_some, e, if_neg (by decide), hmi, bnd_some, if_pos z, if_neg (by decide), show f_X11_fail S 2 = _ from cErr (k := 2) h.2.2.1.1 (by decide), bnd2_some]
        · show f_X12_worths N (E1 S 2) (nI q) (nI p) = _
          unfold f_X12_worths f_X12_missing
          rw [e2, bnd_some, if_neg (by decide), mIsP (m := S.1 173) (E1_nek (by decide)) hW, bnd_some, e, if_neg (by decide), if_pos (inb_nI hq (by decide)), nI_clamp (by omega), E1_nek (by decide), if_pos z, show f_X12_error (E1 S 2) 2 = _ from mErr (k := 2) (by decide), bnd2_some, bnd2_some, if_neg (by decide)]
          rfl
      · obtain ⟨mn, hmn⟩ : ∃ mn, mn = if w (S.1 173) 1 < n then w (S.1 173) 1 else n := ⟨_, rfl⟩
        have hm2 : mn ≤ n ∧ mn ≤ w (S.1 173) 1 := by rw [hmn]; split <;> omega
        have emn : (if nI (w (S.1 173) 1) < nI n then nI (w (S.1 173) 1) else nI n) = nI mn := by
          rw [hmn]
          by_cases c : w (S.1 173) 1 < n
          · rw [if_pos c, if_pos (nI_lt c (by omega))]
          · rw [if_neg c, if_neg (nI_nlt (by omega) (by omega))]
        have hsz : f_X5_size S (158 + 3 * q + 1) = some (nI n) := by
          unfold f_X5_size
          rw [show 158 + 3 * q + 1 = 159 + 3 * q by omega, b3]
        obtain ⟨S1, a1, a2⟩ := cWorths (N := N) (S := S) (m := S.1 173) (nu := fun j => S.1 183 (24 * q + j)) (p := p) (q := q) (n := n) (mn := mn) (by omega) hq hn hm2 hi2 b3 b5 mn 0 N S (S.1 173) (by omega) (by omega) ⟨FrC.refl, hT⟩ (WS.refl hW)
        have f1 : ∀ x, 55 ≤ x → S1.1 x = S.1 x := fun x hx => a2.1 x (Or.inr (by omega)) (by omega)
        obtain ⟨S2, c1, c2, c3⟩ := mWorths (N := N) (S := S1) (m := S.1 173) (nu := fun j => S.1 183 (24 * q + j)) (p := p) (q := q) (n := n) (mn := mn) (by omega) hq hn hmn hi2 (by rw [f1 182 (by decide)]; exact b4) (fun j hj => by rw [f1 183 (by decide)]) mn 0 N S1 (S.1 173) (by omega) (by omega) (fun _ _ => rfl) (f1 173 (by decide)) (WS.refl hW)
        have hw := wrS_wf (m := S.1 173) (nu := fun j => S.1 183 (24 * q + j)) (p := p) (by omega) mn 0 (S.1 173) (WS.refl hW) (by omega)
        refine ⟨nI (wrS (fun j => S.1 183 (24 * q + j)) p mn 0 (S.1 173)).1, S1, S2, ?_, fun x hx => f1 x (by omega), ?_, h.town (fun x x1 x2 x3 x4 x5 x6 x7 x8 => by rw [c2 x x3, a2.1 x (by omega) (by omega)]) ⟨?_, ?_, ?_⟩⟩
        · show f_X11_worths N S (nI q) (nI p) = _
          unfold f_X11_worths
          rw [e1, bnd_some, oeS, if_pos e6, cIsP hT hW, bnd_some, e, if_neg (by decide), hmi, bnd_some, if_neg z, if_pos rfl, hsz, bnd_some, show f_X8_size S 18 = _ from cNt hT hW (Or.inl rfl), bnd_some, emn]
          exact a1
        · show f_X12_worths N S1 (nI q) (nI p) = _
          unfold f_X12_worths f_X12_missing
          rw [e2, bnd_some, if_neg (by decide), mIsP (m := S.1 173) (f1 173 (by decide)) hW, bnd_some, e, if_neg (by decide), if_pos (inb_nI hq (by decide)), nI_clamp (by omega), f1 181 (by decide), if_neg z, bnd2_some, if_pos (by decide)]
          exact c1
        · rw [c3]; exact a2.2.fr (fun x x1 x2 => c2 x (by omega))
        · rw [c3]; exact hw.1.1
        · rw [c3]; unfold YR; rw [hw.2.1]; exact h.1.2.2
/-! judge -/
def jdS (nu : Nat → Int32) (n : Nat) (m : Nat → Int32) : Nat → Nat → Nat
  | 0, i => i
  | k + 1, i => if n ≤ i then i else if nu i = hld (raw m i) then jdS nu n m k (i + 1) else i
theorem cJudge {N : Nat} (hN : 100 < N) {S : St} {m : Nat → Int32} {nu : Nat → Int32} {q n : Nat} (hW : WF m) (hq : q < 4) (hn : n ≤ 24) (hs : S.1 (159 + 3 * q) 1 = nI n) (hu : ∀ j, j < n → S.1 (160 + 3 * q) j = nu j) : ∀ (k i f : Nat) (s : St), i + k = w m 1 → k < f → CR S 8 s m → ∃ s', f_X11_judge_43 N f s (158 + 3 * q) (nI (w m 1)) (nI i) = some (nI (jdS nu n m k i), s') ∧ CR S 8 s' m := by
  have hi2 := hW.nt.2
  intro k
  induction k with
  | zero =>
    intro i f s h1 h2 h3
    obtain ⟨f, rfl⟩ := fuel h2
    refine ⟨s, ?_, h3⟩
    rw [f_X11_judge_43, if_pos (nI_le (by omega) (by omega)), show w m 1 = i by omega]
    rfl
  | succ k ih =>
    intro i f s h1 h2 h3
    obtain ⟨f, rfl⟩ := fuel h2
    have fq : ∀ x, 158 ≤ x → s.1 x = S.1 x := fun x hx => h3.1 x (Or.inr (by omega)) (by omega)
    have hz : s.1 (158 + 3 * q + 1) 1 = nI n := by rw [fq _ (by omega), show 158 + 3 * q + 1 = 159 + 3 * q by omega]; exact hs
    have hr : RW s (158 + 3 * q + 1) n := ⟨hz, by rw [show 158 + 3 * q + 1 + 1 = 160 + 3 * q by omega, ln_sh hq]; exact hn, by rw [show 158 + 3 * q + 1 + 1 = 160 + 3 * q by omega, ln_sh hq]; decide⟩
    have er : jdS nu n m (k + 1) i = if n ≤ i then i else if nu i = hld (raw m i) then jdS nu n m k (i + 1) else i := rfl
    rw [f_X11_judge_43, if_neg (nI_ge (by omega) (by omega)), cHolds hz, bnd_some, hol_1, er]
    by_cases c : n ≤ i
    · have : wi (nI i) (nI n - 1) = 0 := by
        rcases wi_p (v := nI i) (n := n) (by omega) with e | ⟨j, hj, ej, _⟩
        · exact e
        · have := (nI_eq (by omega) (by omega)).mp ej
          omega
      rw [this, if_pos rfl, if_pos c]
      exact ⟨s, rfl, h3⟩
    · have hat : f_X5_at s (158 + 3 * q + 1) (nI i) = some (nu i) := by
        rw [p_at hr (by omega), show 158 + 3 * q + 1 + 1 = 160 + 3 * q by omega, fq _ (by omega), hu i (by omega)]
      obtain ⟨s1, a1, a2, a3⟩ := cName hN h3.2 hW (Or.inl rfl) (i := i) (by omega)
      rw [wi_inp (by omega) (by omega), if_neg (by decide), hat, bnd_some, a1, bnd2_some, if_neg c]
      by_cases d : nu i = hld (raw m i)
      · rw [if_pos d, if_pos d, nI_1]
        exact ih (i + 1) f s1 (by omega) (by omega) ⟨h3.1.trans a2, a3⟩
      · rw [if_neg d, if_neg d]
        exact ⟨s1, rfl, h3.1.trans a2, a3⟩
theorem mJudge {N : Nat} (hN : 100 < N) {S : St} {m : Nat → Int32} {nu : Nat → Int32} {q n : Nat} (hW : WF m) (hq : q < 4) (hn : n ≤ 24) (hs : S.1 182 q = nI n) (hu : ∀ j, j < n → S.1 183 (24 * q + j) = nu j) : ∀ (k i f : Nat) (s : St), i + k = w m 1 → k < f → MR S s m → ∃ s', f_X12_judge_27 N f s (nI q) (nI i) = some (nI (jdS nu n m k i), s') ∧ MR S s' m := by
  have hi2 := hW.nt.2
  intro k
  induction k with
  | zero =>
    intro i f s h1 h2 h3
    obtain ⟨f, rfl⟩ := fuel h2
    refine ⟨s, ?_, h3⟩
    have : wi (nI i) (nI (w m 1) - 1) = 0 := by
      rcases wi_p (v := nI i) (n := w m 1) (by omega) with e | ⟨j, hj, ej, _⟩
      · exact e
      · have := (nI_eq (by omega) (by omega)).mp ej
        omega
    rw [f_X12_judge_27, mIsT h3.2.2 hW, bnd_some, this, if_pos rfl]
    rfl
  | succ k ih =>
    intro i f s h1 h2 h3
    obtain ⟨f, rfl⟩ := fuel h2
    have er : jdS nu n m (k + 1) i = if n ≤ i then i else if nu i = hld (raw m i) then jdS nu n m k (i + 1) else i := rfl
    have e24 : (24 : Int32) * nI q + nI i = nI (24 * q + i) := by rw [k24, pk_mul, nI_add]
    rw [f_X12_judge_27, mIsT h3.2.2 hW, bnd_some, wi_inp (by omega) (by omega), if_neg (by decide), if_pos (inb_nI hq (by decide)), nI_clamp (n := q) (by omega), h3.1 182 (by decide) (by decide) (by decide), hs, er]
    by_cases c : n ≤ i
    · rw [if_pos (nI_le c (by omega)), if_pos c]
      exact ⟨s, rfl, h3⟩
    · obtain ⟨s1, a1, a2, a3⟩ := mName hN h3.2.2 hW (i := i) (by omega)
      have r1 : MR S s1 m := ⟨fun x x1 x2 x3 => by rw [a2 x x2 x3]; exact h3.1 x x1 x2 x3, a3.trans h3.2.1, by rw [a2 173 (by decide) (by decide)]; exact h3.2.2⟩
      rw [if_neg (nI_ge (by omega) (by omega)), if_neg c, e24, if_pos (inb_nI (by omega) (by decide)), a1, bnd2_some, nI_clamp (n := 24 * q + i) (by omega), h3.1 183 (by decide) (by decide) (by decide), hu i (by omega)]
      by_cases d : nu i = hld (raw m i)
      · rw [if_pos d, if_pos d, nI_1]
        exact ih (i + 1) f s1 (by omega) (by omega) r1
      · rw [if_neg d, if_neg d]
        exact ⟨s1, rfl, r1⟩
theorem K_judge {N : Nat} (hN : 100 < N) {S : St} (h : IV S) (v1 : Int32) : CC S (fun s => f_X11_judge N s v1) (fun s => f_X12_judge N s v1) := by
  have hT := h.1.1
  have hW := h.1.2.1
  have hi2 := hW.nt.2
  rcases shAt v1 with ⟨e1, e2⟩ | ⟨q, hq, rfl, e1, e6, e2⟩
  · refine CC.err h (k := 1) (φ := fun a => a) (by decide) ?_ ?_
    · show f_X11_judge N S v1 = _
      unfold f_X11_judge
      rw [e1, bnd_some, oeN]; rfl
    · show f_X12_judge N (E1 S 1) v1 = _
      unfold f_X12_judge
      rw [e2, bnd_some, if_pos rfl]; rfl
  · obtain ⟨n, hn, b1, b2, b3, b4, b5⟩ := h.2.2.2.2.1 q hq
    have hmi := cMiss (S := S) (a := 158 + 3 * q) b1
    by_cases z : S.1 181 q = 0
    · refine ⟨-1000000000 - nI 2, E1 S 2, E2 (E1 S 2) 2, ?_, fun x hx => E1_nek (by omega), ?_, h.err⟩
      · show f_X11_judge N S (nI q) = _
        unfold f_X11_judge
        rw [e1, bnd_some, oeS, if_pos e6, hmi, bnd_some, if_pos z, if_neg (by decide), show f_X11_fail S 2 = _ from cErr (k := 2) h.2.2.1.1 (by decide), bnd2_some]
      · show f_X12_judge N (E1 S 2) (nI q) = _
        unfold f_X12_judge f_X12_missing
        rw [e2, bnd_some, if_neg (by decide), if_pos (inb_nI hq (by decide)), nI_clamp (by omega), E1_nek (by decide), if_pos z, show f_X12_error (E1 S 2) 2 = _ from mErr (k := 2) (by decide), bnd2_some, bnd2_some, if_neg (by decide)]
        rfl
    · obtain ⟨S1, a1, a2⟩ := cJudge hN (S := S) (m := S.1 173) (nu := fun j => S.1 183 (24 * q + j)) (q := q) (n := n) hW hq hn b3 b5 (w (S.1 173) 1) 0 N S (by omega) (by omega) ⟨FrC.refl, hT⟩
      have f1 : ∀ x, 55 ≤ x → S1.1 x = S.1 x := fun x hx => a2.1 x (Or.inr (by omega)) (by omega)
      obtain ⟨S2, c1, c2⟩ := mJudge hN (S := S1) (m := S.1 173) (nu := fun j => S.1 183 (24 * q + j)) (q := q) (n := n) hW hq hn (by rw [f1 182 (by decide)]; exact b4) (fun j hj => by rw [f1 183 (by decide)]) (w (S.1 173) 1) 0 N S1 (by omega) (by omega) ⟨fun _ _ _ _ => rfl, rfl, f1 173 (by decide)⟩
      refine ⟨nI (jdS (fun j => S.1 183 (24 * q + j)) n (S.1 173) (w (S.1 173) 1) 0), S1, S2, ?_, fun x hx => f1 x (by omega), ?_, h.town (fun x x1 x2 x3 x4 x5 x6 x7 x8 => by rw [c2.1 x x3 x6 x7, a2.1 x (by omega) (by omega)]) ⟨?_, ?_, ?_⟩⟩
      · show f_X11_judge N S (nI q) = _
        unfold f_X11_judge
        rw [e1, bnd_some, oeS, if_pos e6, hmi, bnd_some, if_neg z, if_pos rfl, show f_X8_size S 18 = _ from cNt hT hW (Or.inl rfl), bnd_some]
        exact a1
      · show f_X12_judge N S1 (nI q) = _
        unfold f_X12_judge f_X12_missing
        rw [e2, bnd_some, if_neg (by decide), if_pos (inb_nI hq (by decide)), nI_clamp (by omega), f1 181 (by decide), if_neg z, bnd2_some, if_pos (by decide)]
        exact c1
      · rw [c2.2.2]; exact a2.2.fr (fun x x1 x2 => c2.1 x (by omega) (by omega) (by omega))
      · rw [c2.2.2]; exact hW
      · rw [c2.2.2]; exact h.1.2.2
