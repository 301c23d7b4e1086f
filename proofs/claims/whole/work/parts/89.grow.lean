/-! ONE MORE -/
theorem cntx_row {k : Nat} (hk : k < 15) : rowOf (cntx k) = 99 ∨ k = 8 ∨ k = 12 := by
  have h : (List.range 15).all (fun k => decide (rowOf (cntx k) = 99 ∨ k = 8 ∨ k = 12)) = true := by decide +kernel
  exact of_decide_eq_true (List.all_eq_true.mp h k (List.mem_range.mpr hk))
theorem cntx_lt {k : Nat} (hk : k < 15) : cntx k < 516 := by
  have h : (List.range 15).all (fun k => decide (cntx k < 516)) = true := by decide +kernel
  exact of_decide_eq_true (List.all_eq_true.mp h k (List.mem_range.mpr hk))
theorem siz_c {m : Nat → Int32} {k : Nat} (h : cntx k < 98) : siz m k = w m (cntx k) := by
  unfold siz
  by_cases a : k = 8
  · subst a; exact absurd h (by decide)
  · by_cases b : k = 12
    · subst b; exact absurd h (by decide)
    · rw [if_neg a, if_neg b]
theorem RT.grow {S S' : St} {t : Nat} {m m' : Nat → Int32} (h : RT S t m) (hW : WF m) {c n : Nat} (hc : c = 0 ∨ c = 1 ∨ c = 2 ∨ c = 6 ∨ c = 7) (en : n = w m c) (hn : ∀ k, k < 15 → cntx k = c → n < cap k) (hx : m' c = nI (n + 1)) (hm : ∀ x, x < 516 → x ≠ c → (∀ k, k < 15 → cntx k = c → x ≠ cel k n) → m' x = m x) (hr : ∀ k, k < 15 → cntx k = c → S'.1 (t + off k) 1 = nI (n + 1) ∧ S'.1 (t + off k + 1) n = m' (cel k n) ∧ ∀ i, i < n → S'.1 (t + off k + 1) i = S.1 (t + off k + 1) i) (hf : ∀ q, t ≤ q → q < t + 47 → (∀ k, k < 15 → cntx k = c → q ≠ t + off k ∧ q ≠ t + off k + 1) → S'.1 q = S.1 q) : RT S' t m' := by
  have hc99 : rowOf c = 99 := by rcases hc with rfl | rfl | rfl | rfl | rfl <;> decide
  have hc98 : c < 98 := by omega
  have hn100 : n < 100 := by
    have h0 : ∃ k, k < 15 ∧ cntx k = c := by
      rcases hc with rfl | rfl | rfl | rfl | rfl
      · exact ⟨0, by decide, rfl⟩
      · exact ⟨4, by decide, rfl⟩
      · exact ⟨9, by decide, rfl⟩
      · exact ⟨13, by decide, rfl⟩
      · exact ⟨14, by decide, rfl⟩
    obtain ⟨k, a, b⟩ := h0
    have := hn k a b
    have := cap_lt k a
    omega
  have hw' : w m' c = n + 1 := by unfold w; rw [hx, nI_clamp (by omega)]
  have h99 : ∀ x, x < 516 → x ≠ c → rowOf x = 99 → m' x = m x := fun x a b d => hm x a b (fun k hk e f => by
    have := rowOf_cel hk (hn k hk e)
    rw [f, this] at d; omega)
  have hsz : ∀ k, k < 15 → cntx k ≠ c → siz m' k = siz m k := fun k hk e => by
    unfold siz
    by_cases a : k = 8
    · rw [if_pos a, if_pos a]
    · by_cases b : k = 12
      · rw [if_neg a, if_pos b, if_neg a, if_pos b]
      · rw [if_neg a, if_neg b, if_neg a, if_neg b]
        have : rowOf (cntx k) = 99 := by rcases cntx_row hk with r | r | r; exact r; exact absurd r a; exact absurd r b
        unfold w
        rw [h99 _ (cntx_lt hk) e this]
  have htx : ∀ u, u < 2 → ∀ x, tb u ≤ x → x < tb u + 125 → m' x = m x := fun u hu x h1 h2 => by
    unfold tb at h1 h2
    refine h99 x (by omega) (by omega) ?_
    unfold rowOf
    rw [if_neg (by omega), if_neg (by omega), if_neg (by omega), if_neg (by omega), if_neg (by omega), if_neg (by omega), if_neg (by omega), if_pos (by omega)]
  have hq0 : ∀ q, (q = 0 ∨ (30 ≤ q ∧ q ≤ 42)) → S'.1 (t + q) = S.1 (t + q) := fun q hq => hf (t + q) (by omega) (by omega) (fun k hk _ => by
    obtain ⟨o1, o2, o3⟩ := off_lt k hk
    constructor <;> omega)
  obtain ⟨h1, h2, h3, h4, h5, h6, h7⟩ := h
  refine ⟨fun k hk => ?_, h2.congr hW.2.2.2.2.1.2.1 (htx 0 (by decide)) ⟨hq0 30 (by omega), hq0 31 (by omega), by rw [show t + 32 + 7 * 0 = t + 32 from rfl, hq0 32 (by omega)]⟩, h3.congr hW.2.2.2.2.2.2.1 (htx 1 (by decide)) ⟨hq0 37 (by omega), hq0 38 (by omega), by rw [show t + 32 + 7 * 1 = t + 39 from rfl, hq0 39 (by omega)]⟩, ?_, ?_, ?_, ?_⟩
  · by_cases e : cntx k = c
    · have e1 : siz m' k = n + 1 := by rw [siz_c (by omega), e, hw']
      have e0 : siz m k = n := by rw [siz_c (by omega), e, en]
      obtain ⟨a, b, d⟩ := hr k hk e
      refine ⟨by rw [e1]; exact a, fun i hi => ?_⟩
      rw [e1] at hi
      by_cases ei : i = n
      · subst ei; exact b
      · rw [d i (by omega)]
        have old := (h1 k hk).2 i (by omega)
        rw [old]
        refine (hm (cel k i) (cel_lt hk (by have := hn k hk e; omega)) (fun g => ?_) (fun k2 hk2 e2 g => ?_)).symm
        · have r := rowOf_cel hk (i := i) (by have := hn k hk e; omega)
          rw [g, hc99] at r; omega
        · have r1 := rowOf_cel hk (i := i) (by have := hn k hk e; omega)
          have r2 := rowOf_cel hk2 (hn k2 hk2 e2)
          rw [g, r2] at r1
          subst r1
          exact ei (cel_inj hk2 g)
    · have hz := hsz k hk e
      have hfr : S'.1 (t + off k) = S.1 (t + off k) ∧ S'.1 (t + off k + 1) = S.1 (t + off k + 1) := by
        have ho := off_lt k hk
        constructor
        · refine hf _ (by omega) (by omega) (fun k2 hk2 e2 => ?_)
          have := off_sep k2 hk2 k hk (fun g => e (by rw [g]; exact e2))
          omega
        · refine hf _ (by omega) (by omega) (fun k2 hk2 e2 => ?_)
          have := off_sep k2 hk2 k hk (fun g => e (by rw [g]; exact e2))
          omega
      refine ⟨by rw [hz, hfr.1]; exact (h1 k hk).1, fun i hi => ?_⟩
      rw [hz] at hi
      rw [hfr.2, (h1 k hk).2 i hi]
      have hcap := Nat.lt_of_lt_of_le hi (hW.szc k hk)
      refine (hm (cel k i) (cel_lt hk hcap) (fun g => ?_) (fun k2 hk2 e2 g => ?_)).symm
      · have r := rowOf_cel hk hcap
        rw [g, hc99] at r; omega
      · have r1 := rowOf_cel hk hcap
        have r2 := rowOf_cel hk2 (hn k2 hk2 e2)
        rw [g, r2] at r1
        exact e (by rw [← r1]; exact e2)
  · rw [show S'.1 t = S.1 t from hq0 0 (Or.inl rfl), h99 3 (by decide) (by omega) rfl]; exact h4
  · rw [show S'.1 t = S.1 t from hq0 0 (Or.inl rfl), h99 4 (by decide) (by omega) rfl]; exact h5
  · rw [show S'.1 t = S.1 t from hq0 0 (Or.inl rfl), h99 5 (by decide) (by omega) rfl]; exact h6
  · rw [show S'.1 t = S.1 t from hq0 0 (Or.inl rfl), h99 8 (by decide) (by omega) rfl]; exact h7
theorem WF.cnt {m : Nat → Int32} (hW : WF m) {c n : Nat} (hc : c = 0 ∨ c = 1 ∨ c = 2) (en : n = w m c) (hl : n + 1 < lim c) (h0 : c = 0 → 0 < w m (23 + 4 * n)) (h1 : c = 1 → w m (44 + 4 * n) < w m 0) (h2 : c = 2 → w m (92 + 3 * n) < w m 1 ∧ w m (93 + 3 * n) < w m 1) : WF (upd m c (nI (n + 1))) := by
  have h31 := lim_lt c
  have wc : w (upd m c (nI (n + 1))) c = n + 1 := w_upd_same (by omega)
  have wo : ∀ x, x ≠ c → w (upd m c (nI (n + 1))) x = w m x := fun x hx => upd_w_ne hx
  have wle : ∀ x, w m x ≤ w (upd m c (nI (n + 1))) x := fun x => by
    by_cases e : x = c
    · subst e; rw [wc]; omega
    · rw [wo x e]; exact Nat.le_refl _
  refine ⟨fun y hy => ?_, fun p hp => ?_, fun i hi => ?_, fun k hk => ?_, hW.2.2.2.2.1.set (by unfold tb; omega), hW.2.2.2.2.2.set (by unfold tb; omega)⟩
  · by_cases e : y = c
    · subst e; rw [wc, upd_same]; exact ⟨rfl, hl⟩
    · rw [wo y e, upd_ne e]; exact hW.1 y hy
  · rw [wo _ (by omega)]
    by_cases e : c = 0
    · subst e
      rw [wc] at hp
      by_cases d : p = n
      · subst d; exact h0 rfl
      · exact hW.2.1 p (by omega)
    · rw [wo 0 (fun g => e g.symm)] at hp; exact hW.2.1 p hp
  · refine Nat.lt_of_lt_of_le ?_ (wle 0)
    rw [wo _ (by omega)]
    by_cases e : c = 1
    · subst e
      rw [wc] at hi
      by_cases d : i = n
      · subst d; exact h1 rfl
      · exact hW.2.2.1 i (by omega)
    · rw [wo 1 (fun g => e g.symm)] at hi; exact hW.2.2.1 i hi
  · have key : w m (92 + 3 * k) < w m 1 ∧ w m (93 + 3 * k) < w m 1 := by
      by_cases e : c = 2
      · subst e
        rw [wc] at hk
        by_cases d : k = n
        · subst d; exact h2 rfl
        · exact hW.2.2.2.1 k (by omega)
      · rw [wo 2 (fun g => e g.symm)] at hk; exact hW.2.2.2.1 k hk
    rw [wo (92 + 3 * k) (by omega), wo (93 + 3 * k) (by omega)]
    exact ⟨Nat.lt_of_lt_of_le key.1 (wle 1), Nat.lt_of_lt_of_le key.2 (wle 1)⟩
/-- a town that has grown, on both sides -/
theorem IV.grow {S S1 S2 : St} (h : IV S) (f1 : ∀ q, (q = 0 ∨ 55 ≤ q) → S1.1 q = S.1 q) (f2 : ∀ q, q ≠ 173 → S2.1 q = S1.1 q) (hT : RT S1 8 (S2.1 173)) (hW : WF (S2.1 173)) (h3 : S2.1 173 3 = S.1 173 3) : IV S2 := by
  refine h.town (fun q a b c d e f g j => by rw [f2 q c, f1 q a]) ⟨hT.fr (fun q a b => f2 q (by omega)), hW, ?_⟩
  unfold YR
  rw [h3]; exact h.1.2.2
theorem cChanceOk {S : St} {v : Int32} : f_X11_isChance S v = some 0 ∧ (∀ s, f_X12_isPart s v = some 0) ∨ ∃ p q, p ≤ q ∧ 1 ≤ q ∧ q ≤ 9 ∧ v / 10 = nI p ∧ v - v / 10 * 10 = nI q ∧ f_X11_isChance S v = some 1 ∧ (∀ s, f_X12_isPart s v = some 1) := by
  unfold f_X11_isChance f_X12_isPart
  by_cases c : v < 0
  · have c' : ¬ (0 : Int32) ≤ v := Int32.not_le.mpr c
    rw [if_neg c']
    exact Or.inl ⟨rfl, fun _ => by rw [if_pos c]⟩
  · have c' : (0 : Int32) ≤ v := Int32.not_lt.mp c
    rw [if_pos c']
    obtain ⟨j, hj, rfl⟩ := nI_of c
    rw [k10, pk_rem hj (by decide) (by decide), pk_div hj (by decide) (by decide)]
    by_cases d : j % 10 < 1
    · rw [k1, if_pos (nI_lt d (by decide))]
      exact Or.inl ⟨rfl, fun _ => by rw [if_neg c, if_pos (show nI (j % 10) ≤ (0 : Int32) from by rw [k0]; exact nI_le (by omega) (by decide))]⟩
    · have d1 : ¬ nI (j % 10) < (1 : Int32) := by rw [k1]; exact nI_nlt (by omega) (by omega)
      have d2 : ¬ nI (j % 10) ≤ (0 : Int32) := nI_nle (by omega) (by omega)
      rw [if_neg d1]
      by_cases e : j % 10 < j / 10
      · rw [if_pos (nI_lt e (by omega))]
        exact Or.inl ⟨rfl, fun _ => by rw [if_neg c, if_neg d2]⟩
      · rw [if_neg (nI_nlt (by omega) (by omega))]
        exact Or.inr ⟨j / 10, j % 10, by omega, by omega, by omega, rfl, rfl, rfl, fun _ => by rw [if_neg c, if_neg d2]⟩
theorem mIxA {a : Int32} {x : Nat} (ha : a = nI x) (hx : x < 516) : inb a 516 = true ∧ a.toNatClampNeg = x := by
  subst ha
  exact ⟨inb_nI hx (by decide), nI_clamp (by omega)⟩
